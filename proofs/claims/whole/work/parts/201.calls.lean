def Call_status (N : Nat) (Inv : Ms → Prop) : Prop := ∀ (σ : Ms), Inv σ → wp (F11_status σ) fun r t => wp (F12_status t) fun r' t' => r = r' ∧ Inv t'
def Call_top (N : Nat) (Inv : Ms → Prop) : Prop := ∀ (σ : Ms), Inv σ → wp (F11_top σ) fun r t => wp (F12_top t) fun r' t' => r = r' ∧ Inv t'
def Call_bottom (N : Nat) (Inv : Ms → Prop) : Prop := ∀ (σ : Ms), Inv σ → wp (F11_bottom σ) fun r t => wp (F12_bottom t) fun r' t' => r = r' ∧ Inv t'
def Call_tray (N : Nat) (Inv : Ms → Prop) : Prop := ∀ (p0 : Int32) (p1 : Int32) (p2 : Int32) (σ : Ms), Inv σ → wp (F11_tray N p0 p1 p2 σ) fun r t => wp (F12_tray N p0 p1 p2 t) fun r' t' => r = r' ∧ Inv t'
def Call_write (N : Nat) (Inv : Ms → Prop) : Prop := ∀ (p0 : Int32) (p1 : Int32) (p2 : Int64) (σ : Ms), Inv σ → wp (F11_write p0 p1 p2 σ) fun r t => wp (F12_write p0 p1 p2 t) fun r' t' => r = r' ∧ Inv t'
def Call_read (N : Nat) (Inv : Ms → Prop) : Prop := ∀ (p0 : Int32) (p1 : Int32) (σ : Ms), Inv σ → wp (F11_read p0 p1 σ) fun r t => wp (F12_read p0 p1 t) fun r' t' => r = r' ∧ Inv t'
def Call_pour (N : Nat) (Inv : Ms → Prop) : Prop := ∀ (p0 : Int32) (p1 : Int32) (p2 : Int32) (p3 : Int32) (p4 : Int32) (σ : Ms), Inv σ → wp (F11_pour p0 p1 p2 p3 p4 σ) fun r t => wp (F12_pour N p0 p1 p2 p3 p4 t) fun r' t' => r = r' ∧ Inv t'
def Call_feed (N : Nat) (Inv : Ms → Prop) : Prop := ∀ (p0 : Int32) (p1 : Int32) (p2 : Int32) (p3 : Int32) (p4 : Int32) (σ : Ms), Inv σ → wp (F11_feed N p0 p1 p2 p3 p4 σ) fun r t => wp (F12_feed N p0 p1 p2 p3 p4 t) fun r' t' => r = r' ∧ Inv t'
def Call_hedge (N : Nat) (Inv : Ms → Prop) : Prop := ∀ (p0 : Int32) (σ : Ms), Inv σ → wp (F11_hedge N p0 σ) fun r t => wp (F12_hedge N p0 t) fun r' t' => r = r' ∧ Inv t'
def Call_seasons (N : Nat) (Inv : Ms → Prop) : Prop := ∀ (p0 : Int32) (σ : Ms), Inv σ → wp (F11_seasons N p0 σ) fun r t => wp (F12_seasons N p0 t) fun r' t' => r = r' ∧ Inv t'
def Call_fault (N : Nat) (Inv : Ms → Prop) : Prop := ∀ (p0 : Int32) (σ : Ms), Inv σ → wp (F11_fault p0 σ) fun r t => wp (F12_fault p0 t) fun r' t' => r = r' ∧ Inv t'
def Call_many (N : Nat) (Inv : Ms → Prop) : Prop := ∀ (p0 : Int32) (σ : Ms), Inv σ → wp (F11_many p0 σ) fun r t => wp (F12_many N p0 t) fun r' t' => r = r' ∧ Inv t'
def Call_sprig (N : Nat) (Inv : Ms → Prop) : Prop := ∀ (p0 : Int32) (p1 : Int32) (σ : Ms), Inv σ → wp (F11_sprig N p0 p1 σ) fun r t => wp (F12_sprig N p0 p1 t) fun r' t' => r = r' ∧ Inv t'
def Call_heap (N : Nat) (Inv : Ms → Prop) : Prop := ∀ (p0 : Int32) (σ : Ms), Inv σ → wp (F11_heap p0 σ) fun r t => wp (F12_heap p0 t) fun r' t' => r = r' ∧ Inv t'
def Call_bet (N : Nat) (Inv : Ms → Prop) : Prop := ∀ (p0 : Int32) (p1 : Int32) (σ : Ms), Inv σ → wp (F11_bet p0 p1 σ) fun r t => wp (F12_bet p0 p1 t) fun r' t' => r = r' ∧ Inv t'
def Call_copyColours (N : Nat) (Inv : Ms → Prop) : Prop := ∀ (p0 : Int32) (σ : Ms), Inv σ → wp (F11_copyColours N p0 σ) fun r t => wp (F12_copyColours N p0 t) fun r' t' => r = r' ∧ Inv t'
def Call_cut (N : Nat) (Inv : Ms → Prop) : Prop := ∀ (p0 : Int32) (p1 : Int32) (σ : Ms), Inv σ → wp (F11_cut N p0 p1 σ) fun r t => wp (F12_cut N p0 p1 t) fun r' t' => r = r' ∧ Inv t'
def Call_take (N : Nat) (Inv : Ms → Prop) : Prop := ∀ (p0 : Int32) (p1 : Int32) (σ : Ms), Inv σ → wp (F11_take p0 p1 σ) fun r t => wp (F12_take p0 p1 t) fun r' t' => r = r' ∧ Inv t'
def Call_less (N : Nat) (Inv : Ms → Prop) : Prop := ∀ (p0 : Int32) (p1 : Int32) (σ : Ms), Inv σ → wp (F11_less N p0 p1 σ) fun r t => wp (F12_less N p0 p1 t) fun r' t' => r = r' ∧ Inv t'
def Call_spend (N : Nat) (Inv : Ms → Prop) : Prop := ∀ (p0 : Int32) (σ : Ms), Inv σ → wp (F11_spend p0 σ) fun r t => wp (F12_spend p0 t) fun r' t' => r = r' ∧ Inv t'
def Call_grow (N : Nat) (Inv : Ms → Prop) : Prop := ∀ (p0 : Int32) (p1 : Int32) (σ : Ms), Inv σ → wp (F11_grow p0 p1 σ) fun r t => wp (F12_grow p0 p1 t) fun r' t' => r = r' ∧ Inv t'
def Call_paint (N : Nat) (Inv : Ms → Prop) : Prop := ∀ (p0 : Int32) (σ : Ms), Inv σ → wp (F11_paint p0 σ) fun r t => wp (F12_paint p0 t) fun r' t' => r = r' ∧ Inv t'
def Call_pile (N : Nat) (Inv : Ms → Prop) : Prop := ∀ (p0 : Int32) (σ : Ms), Inv σ → wp (F11_pile p0 σ) fun r t => wp (F12_pile p0 t) fun r' t' => r = r' ∧ Inv t'
def Call_offer (N : Nat) (Inv : Ms → Prop) : Prop := ∀ (p0 : Int32) (p1 : Int32) (σ : Ms), Inv σ → wp (F11_offer p0 p1 σ) fun r t => wp (F12_offer p0 p1 t) fun r' t' => r = r' ∧ Inv t'
def Call_worth (N : Nat) (Inv : Ms → Prop) : Prop := ∀ (σ : Ms), Inv σ → wp (F11_worth N σ) fun r t => wp (F12_worth N t) fun r' t' => r = r' ∧ Inv t'
def Call_worthOf (N : Nat) (Inv : Ms → Prop) : Prop := ∀ (p0 : Int32) (σ : Ms), Inv σ → wp (F11_worthOf N p0 σ) fun r t => wp (F12_worthOf N p0 t) fun r' t' => r = r' ∧ Inv t'
def Call_nimber (N : Nat) (Inv : Ms → Prop) : Prop := ∀ (σ : Ms), Inv σ → wp (F11_nimber N σ) fun r t => wp (F12_nimber N t) fun r' t' => r = r' ∧ Inv t'
def Call_nimOf (N : Nat) (Inv : Ms → Prop) : Prop := ∀ (p0 : Int32) (σ : Ms), Inv σ → wp (F11_nimOf N p0 σ) fun r t => wp (F12_nimOf N p0 t) fun r' t' => r = r' ∧ Inv t'
def Call_compare (N : Nat) (Inv : Ms → Prop) : Prop := ∀ (p0 : Int32) (p1 : Int32) (σ : Ms), Inv σ → wp (F11_compare N p0 p1 σ) fun r t => wp (F12_compare N p0 p1 t) fun r' t' => r = r' ∧ Inv t'
def Call_outcome (N : Nat) (Inv : Ms → Prop) : Prop := ∀ (σ : Ms), Inv σ → wp (F11_outcome N σ) fun r t => wp (F12_outcome N t) fun r' t' => r = r' ∧ Inv t'
def Call_winner (N : Nat) (Inv : Ms → Prop) : Prop := ∀ (p0 : Int32) (σ : Ms), Inv σ → wp (F11_winner N p0 σ) fun r t => wp (F12_winner N p0 t) fun r' t' => r = r' ∧ Inv t'
def Call_moves (N : Nat) (Inv : Ms → Prop) : Prop := ∀ (p0 : Int32) (σ : Ms), Inv σ → wp (F11_moves N p0 σ) fun r t => wp (F12_moves N p0 t) fun r' t' => r = r' ∧ Inv t'
def Call_wins (N : Nat) (Inv : Ms → Prop) : Prop := ∀ (p0 : Int32) (σ : Ms), Inv σ → wp (F11_wins N p0 σ) fun r t => wp (F12_wins N p0 t) fun r' t' => r = r' ∧ Inv t'
def Call_bestOf (N : Nat) (Inv : Ms → Prop) : Prop := ∀ (p0 : Int32) (p1 : Int32) (σ : Ms), Inv σ → wp (F11_bestOf N p0 p1 σ) fun r t => wp (F12_bestOf N p0 p1 t) fun r' t' => r = r' ∧ Inv t'
def Call_stop (N : Nat) (Inv : Ms → Prop) : Prop := ∀ (p0 : Int32) (σ : Ms), Inv σ → wp (F11_stop N p0 σ) fun r t => wp (F12_stop N p0 t) fun r' t' => r = r' ∧ Inv t'
def Call_hottest (N : Nat) (Inv : Ms → Prop) : Prop := ∀ (σ : Ms), Inv σ → wp (F11_hottest N σ) fun r t => wp (F12_hottest N t) fun r' t' => r = r' ∧ Inv t'
def Call_heat (N : Nat) (Inv : Ms → Prop) : Prop := ∀ (p0 : Int32) (p1 : Int32) (σ : Ms), Inv σ → wp (F11_heat N p0 p1 σ) fun r t => wp (F12_heat N p0 p1 t) fun r' t' => r = r' ∧ Inv t'
def Call_simplest (N : Nat) (Inv : Ms → Prop) : Prop := ∀ (p0 : Int32) (p1 : Int32) (p2 : Int32) (p3 : Int32) (σ : Ms), Inv σ → wp (F11_simplest N p0 p1 p2 p3 σ) fun r t => wp (F12_simplest N p0 p1 p2 p3 t) fun r' t' => r = r' ∧ Inv t'
def Call_birthday (N : Nat) (Inv : Ms → Prop) : Prop := ∀ (p0 : Int32) (p1 : Int32) (σ : Ms), Inv σ → wp (F11_birthday p0 p1 σ) fun r t => wp (F12_birthday N p0 p1 t) fun r' t' => r = r' ∧ Inv t'
def Call_stalkAt (N : Nat) (Inv : Ms → Prop) : Prop := ∀ (p0 : Int32) (p1 : Int32) (p2 : Int32) (σ : Ms), Inv σ → wp (F11_stalkAt N p0 p1 p2 σ) fun r t => wp (F12_stalkAt N p0 p1 p2 t) fun r' t' => r = r' ∧ Inv t'
def Call_stalkWorth (N : Nat) (Inv : Ms → Prop) : Prop := ∀ (p0 : Int32) (p1 : Int32) (σ : Ms), Inv σ → wp (F11_stalkWorth N p0 p1 σ) fun r t => wp (F12_stalkWorth N p0 p1 t) fun r' t' => r = r' ∧ Inv t'
def Call_colourings (N : Nat) (Inv : Ms → Prop) : Prop := ∀ (p0 : Int32) (p1 : Int32) (p2 : Int32) (σ : Ms), Inv σ → wp (F11_colourings N p0 p1 p2 σ) fun r t => wp (F12_colourings N p0 p1 p2 t) fun r' t' => r = r' ∧ Inv t'
def Call_firstRed (N : Nat) (Inv : Ms → Prop) : Prop := ∀ (p0 : Int32) (p1 : Int32) (p2 : Int32) (σ : Ms), Inv σ → wp (F11_firstRed N p0 p1 p2 σ) fun r t => wp (F12_firstRed N p0 p1 p2 t) fun r' t' => r = r' ∧ Inv t'
def Call_oddsBlue (N : Nat) (Inv : Ms → Prop) : Prop := ∀ (p0 : Int32) (p1 : Int32) (p2 : Int32) (p3 : Int32) (σ : Ms), Inv σ → wp (F11_oddsBlue N p0 p1 p2 p3 σ) fun r t => wp (F12_oddsBlue N p0 p1 p2 p3 t) fun r' t' => r = r' ∧ Inv t'
def Call_ask (N : Nat) (Inv : Ms → Prop) : Prop := ∀ (p0 : Int32) (p1 : Int32) (p2 : Int32) (σ : Ms), Inv σ → wp (F11_ask N p0 p1 p2 σ) fun r t => wp (F12_ask N p0 p1 p2 t) fun r' t' => r = r' ∧ Inv t'
def Call_balance (N : Nat) (Inv : Ms → Prop) : Prop := ∀ (σ : Ms), Inv σ → wp (F11_balance N σ) fun r t => wp (F12_balance N t) fun r' t' => r = r' ∧ Inv t'
def Call_balanceSet (N : Nat) (Inv : Ms → Prop) : Prop := ∀ (σ : Ms), Inv σ → wp (F11_balanceSet N σ) fun r t => wp (F12_balanceSet N t) fun r' t' => r = r' ∧ Inv t'
def Call_luck (N : Nat) (Inv : Ms → Prop) : Prop := ∀ (p0 : Int32) (σ : Ms), Inv σ → wp (F11_luck N p0 σ) fun r t => wp (F12_luck N p0 t) fun r' t' => r = r' ∧ Inv t'
def Call_live (N : Nat) (Inv : Ms → Prop) : Prop := ∀ (p0 : Int32) (σ : Ms), Inv σ → wp (F11_live N p0 σ) fun r t => wp (F12_live N p0 t) fun r' t' => r = r' ∧ Inv t'
def Call_lived (N : Nat) (Inv : Ms → Prop) : Prop := ∀ (p0 : Int32) (σ : Ms), Inv σ → wp (F11_lived p0 σ) fun r t => wp (F12_lived p0 t) fun r' t' => r = r' ∧ Inv t'
def Call_mean (N : Nat) (Inv : Ms → Prop) : Prop := ∀ (p0 : Int32) (p1 : Int32) (σ : Ms), Inv σ → wp (F11_mean N p0 p1 σ) fun r t => wp (F12_mean N p0 p1 t) fun r' t' => r = r' ∧ Inv t'
def Call_mark (N : Nat) (Inv : Ms → Prop) : Prop := ∀ (σ : Ms), Inv σ → wp (F11_mark N σ) fun r t => wp (F12_mark N t) fun r' t' => r = r' ∧ Inv t'
def Call_back (N : Nat) (Inv : Ms → Prop) : Prop := ∀ (σ : Ms), Inv σ → wp (F11_back N σ) fun r t => wp (F12_back N t) fun r' t' => r = r' ∧ Inv t'
def Calls (N : Nat) (Inv : Ms → Prop) : Prop := Call_status N Inv ∧ Call_top N Inv ∧ Call_bottom N Inv ∧ Call_tray N Inv ∧ Call_write N Inv ∧ Call_read N Inv ∧ Call_pour N Inv ∧ Call_feed N Inv ∧ Call_hedge N Inv ∧ Call_seasons N Inv ∧ Call_fault N Inv ∧ Call_many N Inv ∧ Call_sprig N Inv ∧ Call_heap N Inv ∧ Call_bet N Inv ∧ Call_copyColours N Inv ∧ Call_cut N Inv ∧ Call_take N Inv ∧ Call_less N Inv ∧ Call_spend N Inv ∧ Call_grow N Inv ∧ Call_paint N Inv ∧ Call_pile N Inv ∧ Call_offer N Inv ∧ Call_worth N Inv ∧ Call_worthOf N Inv ∧ Call_nimber N Inv ∧ Call_nimOf N Inv ∧ Call_compare N Inv ∧ Call_outcome N Inv ∧ Call_winner N Inv ∧ Call_moves N Inv ∧ Call_wins N Inv ∧ Call_bestOf N Inv ∧ Call_stop N Inv ∧ Call_hottest N Inv ∧ Call_heat N Inv ∧ Call_simplest N Inv ∧ Call_birthday N Inv ∧ Call_stalkAt N Inv ∧ Call_stalkWorth N Inv ∧ Call_colourings N Inv ∧ Call_firstRed N Inv ∧ Call_oddsBlue N Inv ∧ Call_ask N Inv ∧ Call_balance N Inv ∧ Call_balanceSet N Inv ∧ Call_luck N Inv ∧ Call_live N Inv ∧ Call_lived N Inv ∧ Call_mean N Inv ∧ Call_mark N Inv ∧ Call_back N Inv
theorem lc_status {N L : Nat} {xs : Nat → Int32} {Inv : Ms → Prop} (C : Call_status N Inv) {k : Int32 × Ms → Option (Int32 × Ms)} {l3 : Int32} {σ : Ms} (hI : Inv σ) (h1 : ixb (l3 + (1 : Int32)) L = true) (h2 : ixb (l3 + (2 : Int32)) L = true) (h3 : ixb (l3 + (3 : Int32)) L = true) (h4 : ixb (l3 + (4 : Int32)) L = true) (h5 : ixb (l3 + (5 : Int32)) L = true) (hk : ∀ τ, Inv τ → wp (k (l3 + (6 : Int32), τ)) fun r _ => r = 1) : wp (FL_law_b260 N L xs k l3 σ) fun r _ => r = 1 := by
  unfold FL_law_b260
  try simp only [h1, h2, h3, h4, h5, ck_t]
  refine wp_bn.mpr (wp_mono (C  _ hI) fun r t h => wp_bn.mpr (wp_mono h fun r' t' e => ?_))
  obtain ⟨rfl, hi⟩ := e
  rw [if_pos rfl]
  exact hk t' hi
theorem lc_top {N L : Nat} {xs : Nat → Int32} {Inv : Ms → Prop} (C : Call_top N Inv) {k : Int32 × Ms → Option (Int32 × Ms)} {l3 : Int32} {σ : Ms} (hI : Inv σ) (h1 : ixb (l3 + (1 : Int32)) L = true) (h2 : ixb (l3 + (2 : Int32)) L = true) (h3 : ixb (l3 + (3 : Int32)) L = true) (h4 : ixb (l3 + (4 : Int32)) L = true) (h5 : ixb (l3 + (5 : Int32)) L = true) (hk : ∀ τ, Inv τ → wp (k (l3 + (6 : Int32), τ)) fun r _ => r = 1) : wp (FL_law_b273 N L xs k l3 σ) fun r _ => r = 1 := by
  unfold FL_law_b273
  try simp only [h1, h2, h3, h4, h5, ck_t]
  refine wp_bn.mpr (wp_mono (C  _ hI) fun r t h => wp_bn.mpr (wp_mono h fun r' t' e => ?_))
  obtain ⟨rfl, hi⟩ := e
  rw [if_pos (by simp [lg_cmp])]
  exact hk t' hi
theorem lc_bottom {N L : Nat} {xs : Nat → Int32} {Inv : Ms → Prop} (C : Call_bottom N Inv) {k : Int32 × Ms → Option (Int32 × Ms)} {l3 : Int32} {σ : Ms} (hI : Inv σ) (h1 : ixb (l3 + (1 : Int32)) L = true) (h2 : ixb (l3 + (2 : Int32)) L = true) (h3 : ixb (l3 + (3 : Int32)) L = true) (h4 : ixb (l3 + (4 : Int32)) L = true) (h5 : ixb (l3 + (5 : Int32)) L = true) (hk : ∀ τ, Inv τ → wp (k (l3 + (6 : Int32), τ)) fun r _ => r = 1) : wp (FL_law_b287 N L xs k l3 σ) fun r _ => r = 1 := by
  unfold FL_law_b287
  try simp only [h1, h2, h3, h4, h5, ck_t]
  refine wp_bn.mpr (wp_mono (C  _ hI) fun r t h => wp_bn.mpr (wp_mono h fun r' t' e => ?_))
  obtain ⟨rfl, hi⟩ := e
  rw [if_pos (by simp [lg_cmp])]
  exact hk t' hi
theorem lc_tray {N L : Nat} {xs : Nat → Int32} {Inv : Ms → Prop} (C : Call_tray N Inv) {k : Int32 × Ms → Option (Int32 × Ms)} {l3 : Int32} {σ : Ms} (hI : Inv σ) (h1 : ixb (l3 + (1 : Int32)) L = true) (h2 : ixb (l3 + (2 : Int32)) L = true) (h3 : ixb (l3 + (3 : Int32)) L = true) (h4 : ixb (l3 + (4 : Int32)) L = true) (h5 : ixb (l3 + (5 : Int32)) L = true) (hk : ∀ τ, Inv τ → wp (k (l3 + (6 : Int32), τ)) fun r _ => r = 1) : wp (FL_law_b301 N L xs k l3 σ) fun r _ => r = 1 := by
  unfold FL_law_b301
  try simp only [h1, h2, h3, h4, h5, ck_t]
  refine wp_bn.mpr (wp_mono (C _ _ _ _ hI) fun r t h => wp_bn.mpr (wp_mono h fun r' t' e => ?_))
  obtain ⟨rfl, hi⟩ := e
  rw [if_pos rfl]
  exact hk t' hi
theorem lc_write {N L : Nat} {xs : Nat → Int32} {Inv : Ms → Prop} (C : Call_write N Inv) {k : Int32 × Ms → Option (Int32 × Ms)} {l3 : Int32} {σ : Ms} (hI : Inv σ) (h1 : ixb (l3 + (1 : Int32)) L = true) (h2 : ixb (l3 + (2 : Int32)) L = true) (h3 : ixb (l3 + (3 : Int32)) L = true) (h4 : ixb (l3 + (4 : Int32)) L = true) (h5 : ixb (l3 + (5 : Int32)) L = true) (hk : ∀ τ, Inv τ → wp (k (l3 + (6 : Int32), τ)) fun r _ => r = 1) : wp (FL_law_b344 N L xs k l3 σ) fun r _ => r = 1 := by
  unfold FL_law_b344
  try simp only [h1, h2, h3, h4, h5, ck_t]
  refine wp_bn.mpr (wp_mono (C _ _ _ _ hI) fun r t h => wp_bn.mpr (wp_mono h fun r' t' e => ?_))
  obtain ⟨rfl, hi⟩ := e
  rw [if_pos rfl]
  exact hk t' hi
theorem lc_read {N L : Nat} {xs : Nat → Int32} {Inv : Ms → Prop} (C : Call_read N Inv) {k : Int32 × Ms → Option (Int32 × Ms)} {l3 : Int32} {σ : Ms} (hI : Inv σ) (h1 : ixb (l3 + (1 : Int32)) L = true) (h2 : ixb (l3 + (2 : Int32)) L = true) (h3 : ixb (l3 + (3 : Int32)) L = true) (h4 : ixb (l3 + (4 : Int32)) L = true) (h5 : ixb (l3 + (5 : Int32)) L = true) (hk : ∀ τ, Inv τ → wp (k (l3 + (6 : Int32), τ)) fun r _ => r = 1) : wp (FL_law_b417 N L xs k l3 σ) fun r _ => r = 1 := by
  unfold FL_law_b417
  try simp only [h1, h2, h3, h4, h5, ck_t]
  refine wp_bn.mpr (wp_mono (C _ _ _ hI) fun r t h => wp_bn.mpr (wp_mono h fun r' t' e => ?_))
  obtain ⟨rfl, hi⟩ := e
  rw [if_pos (by simp [lg_cmp])]
  exact hk t' hi
theorem lc_pour {N L : Nat} {xs : Nat → Int32} {Inv : Ms → Prop} (C : Call_pour N Inv) {k : Int32 × Ms → Option (Int32 × Ms)} {l3 : Int32} {σ : Ms} (hI : Inv σ) (h1 : ixb (l3 + (1 : Int32)) L = true) (h2 : ixb (l3 + (2 : Int32)) L = true) (h3 : ixb (l3 + (3 : Int32)) L = true) (h4 : ixb (l3 + (4 : Int32)) L = true) (h5 : ixb (l3 + (5 : Int32)) L = true) (hk : ∀ τ, Inv τ → wp (k (l3 + (6 : Int32), τ)) fun r _ => r = 1) : wp (FL_law_b451 N L xs k l3 σ) fun r _ => r = 1 := by
  unfold FL_law_b451
  try simp only [h1, h2, h3, h4, h5, ck_t]
  refine wp_bn.mpr (wp_mono (C _ _ _ _ _ _ hI) fun r t h => wp_bn.mpr (wp_mono h fun r' t' e => ?_))
  obtain ⟨rfl, hi⟩ := e
  rw [if_pos rfl]
  exact hk t' hi
theorem lc_feed {N L : Nat} {xs : Nat → Int32} {Inv : Ms → Prop} (C : Call_feed N Inv) {k : Int32 × Ms → Option (Int32 × Ms)} {l3 : Int32} {σ : Ms} (hI : Inv σ) (h1 : ixb (l3 + (1 : Int32)) L = true) (h2 : ixb (l3 + (2 : Int32)) L = true) (h3 : ixb (l3 + (3 : Int32)) L = true) (h4 : ixb (l3 + (4 : Int32)) L = true) (h5 : ixb (l3 + (5 : Int32)) L = true) (hk : ∀ τ, Inv τ → wp (k (l3 + (6 : Int32), τ)) fun r _ => r = 1) : wp (FL_law_b514 N L xs k l3 σ) fun r _ => r = 1 := by
  unfold FL_law_b514
  try simp only [h1, h2, h3, h4, h5, ck_t]
  refine wp_bn.mpr (wp_mono (C _ _ _ _ _ _ hI) fun r t h => wp_bn.mpr (wp_mono h fun r' t' e => ?_))
  obtain ⟨rfl, hi⟩ := e
  rw [if_pos rfl]
  exact hk t' hi
theorem lc_hedge {N L : Nat} {xs : Nat → Int32} {Inv : Ms → Prop} (C : Call_hedge N Inv) {k : Int32 × Ms → Option (Int32 × Ms)} {l3 : Int32} {σ : Ms} (hI : Inv σ) (h1 : ixb (l3 + (1 : Int32)) L = true) (h2 : ixb (l3 + (2 : Int32)) L = true) (h3 : ixb (l3 + (3 : Int32)) L = true) (h4 : ixb (l3 + (4 : Int32)) L = true) (h5 : ixb (l3 + (5 : Int32)) L = true) (hk : ∀ τ, Inv τ → wp (k (l3 + (6 : Int32), τ)) fun r _ => r = 1) : wp (FL_law_b577 N L xs k l3 σ) fun r _ => r = 1 := by
  unfold FL_law_b577
  try simp only [h1, h2, h3, h4, h5, ck_t]
  refine wp_bn.mpr (wp_mono (C _ _ hI) fun r t h => wp_bn.mpr (wp_mono h fun r' t' e => ?_))
  obtain ⟨rfl, hi⟩ := e
  rw [if_pos rfl]
  exact hk t' hi
theorem lc_seasons {N L : Nat} {xs : Nat → Int32} {Inv : Ms → Prop} (C : Call_seasons N Inv) {k : Int32 × Ms → Option (Int32 × Ms)} {l3 : Int32} {σ : Ms} (hI : Inv σ) (h1 : ixb (l3 + (1 : Int32)) L = true) (h2 : ixb (l3 + (2 : Int32)) L = true) (h3 : ixb (l3 + (3 : Int32)) L = true) (h4 : ixb (l3 + (4 : Int32)) L = true) (h5 : ixb (l3 + (5 : Int32)) L = true) (hk : ∀ τ, Inv τ → wp (k (l3 + (6 : Int32), τ)) fun r _ => r = 1) : wp (FL_law_b600 N L xs k l3 σ) fun r _ => r = 1 := by
  unfold FL_law_b600
  try simp only [h1, h2, h3, h4, h5, ck_t]
  refine wp_bn.mpr (wp_mono (C _ _ hI) fun r t h => wp_bn.mpr (wp_mono h fun r' t' e => ?_))
  obtain ⟨rfl, hi⟩ := e
  rw [if_pos rfl]
  exact hk t' hi
theorem lc_fault {N L : Nat} {xs : Nat → Int32} {Inv : Ms → Prop} (C : Call_fault N Inv) {k : Int32 × Ms → Option (Int32 × Ms)} {l3 : Int32} {σ : Ms} (hI : Inv σ) (h1 : ixb (l3 + (1 : Int32)) L = true) (h2 : ixb (l3 + (2 : Int32)) L = true) (h3 : ixb (l3 + (3 : Int32)) L = true) (h4 : ixb (l3 + (4 : Int32)) L = true) (h5 : ixb (l3 + (5 : Int32)) L = true) (hk : ∀ τ, Inv τ → wp (k (l3 + (6 : Int32), τ)) fun r _ => r = 1) : wp (FL_law_b623 N L xs k l3 σ) fun r _ => r = 1 := by
  unfold FL_law_b623
  try simp only [h1, h2, h3, h4, h5, ck_t]
  refine wp_bn.mpr (wp_mono (C _ _ hI) fun r t h => wp_bn.mpr (wp_mono h fun r' t' e => ?_))
  obtain ⟨rfl, hi⟩ := e
  rw [if_pos rfl]
  exact hk t' hi
theorem lc_many {N L : Nat} {xs : Nat → Int32} {Inv : Ms → Prop} (C : Call_many N Inv) {k : Int32 × Ms → Option (Int32 × Ms)} {l3 : Int32} {σ : Ms} (hI : Inv σ) (h1 : ixb (l3 + (1 : Int32)) L = true) (h2 : ixb (l3 + (2 : Int32)) L = true) (h3 : ixb (l3 + (3 : Int32)) L = true) (h4 : ixb (l3 + (4 : Int32)) L = true) (h5 : ixb (l3 + (5 : Int32)) L = true) (hk : ∀ τ, Inv τ → wp (k (l3 + (6 : Int32), τ)) fun r _ => r = 1) : wp (FL_law_b646 N L xs k l3 σ) fun r _ => r = 1 := by
  unfold FL_law_b646
  try simp only [h1, h2, h3, h4, h5, ck_t]
  refine wp_bn.mpr (wp_mono (C _ _ hI) fun r t h => wp_bn.mpr (wp_mono h fun r' t' e => ?_))
  obtain ⟨rfl, hi⟩ := e
  rw [if_pos rfl]
  exact hk t' hi
theorem lc_sprig {N L : Nat} {xs : Nat → Int32} {Inv : Ms → Prop} (C : Call_sprig N Inv) {k : Int32 × Ms → Option (Int32 × Ms)} {l3 : Int32} {σ : Ms} (hI : Inv σ) (h1 : ixb (l3 + (1 : Int32)) L = true) (h2 : ixb (l3 + (2 : Int32)) L = true) (h3 : ixb (l3 + (3 : Int32)) L = true) (h4 : ixb (l3 + (4 : Int32)) L = true) (h5 : ixb (l3 + (5 : Int32)) L = true) (hk : ∀ τ, Inv τ → wp (k (l3 + (6 : Int32), τ)) fun r _ => r = 1) : wp (FL_law_b669 N L xs k l3 σ) fun r _ => r = 1 := by
  unfold FL_law_b669
  try simp only [h1, h2, h3, h4, h5, ck_t]
  refine wp_bn.mpr (wp_mono (C _ _ _ hI) fun r t h => wp_bn.mpr (wp_mono h fun r' t' e => ?_))
  obtain ⟨rfl, hi⟩ := e
  rw [if_pos rfl]
  exact hk t' hi
theorem lc_heap {N L : Nat} {xs : Nat → Int32} {Inv : Ms → Prop} (C : Call_heap N Inv) {k : Int32 × Ms → Option (Int32 × Ms)} {l3 : Int32} {σ : Ms} (hI : Inv σ) (h1 : ixb (l3 + (1 : Int32)) L = true) (h2 : ixb (l3 + (2 : Int32)) L = true) (h3 : ixb (l3 + (3 : Int32)) L = true) (h4 : ixb (l3 + (4 : Int32)) L = true) (h5 : ixb (l3 + (5 : Int32)) L = true) (hk : ∀ τ, Inv τ → wp (k (l3 + (6 : Int32), τ)) fun r _ => r = 1) : wp (FL_law_b702 N L xs k l3 σ) fun r _ => r = 1 := by
  unfold FL_law_b702
  try simp only [h1, h2, h3, h4, h5, ck_t]
  refine wp_bn.mpr (wp_mono (C _ _ hI) fun r t h => wp_bn.mpr (wp_mono h fun r' t' e => ?_))
  obtain ⟨rfl, hi⟩ := e
  rw [if_pos rfl]
  exact hk t' hi
theorem lc_bet {N L : Nat} {xs : Nat → Int32} {Inv : Ms → Prop} (C : Call_bet N Inv) {k : Int32 × Ms → Option (Int32 × Ms)} {l3 : Int32} {σ : Ms} (hI : Inv σ) (h1 : ixb (l3 + (1 : Int32)) L = true) (h2 : ixb (l3 + (2 : Int32)) L = true) (h3 : ixb (l3 + (3 : Int32)) L = true) (h4 : ixb (l3 + (4 : Int32)) L = true) (h5 : ixb (l3 + (5 : Int32)) L = true) (hk : ∀ τ, Inv τ → wp (k (l3 + (6 : Int32), τ)) fun r _ => r = 1) : wp (FL_law_b725 N L xs k l3 σ) fun r _ => r = 1 := by
  unfold FL_law_b725
  try simp only [h1, h2, h3, h4, h5, ck_t]
  refine wp_bn.mpr (wp_mono (C _ _ _ hI) fun r t h => wp_bn.mpr (wp_mono h fun r' t' e => ?_))
  obtain ⟨rfl, hi⟩ := e
  rw [if_pos rfl]
  exact hk t' hi
theorem lc_copyColours {N L : Nat} {xs : Nat → Int32} {Inv : Ms → Prop} (C : Call_copyColours N Inv) {k : Int32 × Ms → Option (Int32 × Ms)} {l3 : Int32} {σ : Ms} (hI : Inv σ) (h1 : ixb (l3 + (1 : Int32)) L = true) (h2 : ixb (l3 + (2 : Int32)) L = true) (h3 : ixb (l3 + (3 : Int32)) L = true) (h4 : ixb (l3 + (4 : Int32)) L = true) (h5 : ixb (l3 + (5 : Int32)) L = true) (hk : ∀ τ, Inv τ → wp (k (l3 + (6 : Int32), τ)) fun r _ => r = 1) : wp (FL_law_b758 N L xs k l3 σ) fun r _ => r = 1 := by
  unfold FL_law_b758
  try simp only [h1, h2, h3, h4, h5, ck_t]
  refine wp_bn.mpr (wp_mono (C _ _ hI) fun r t h => wp_bn.mpr (wp_mono h fun r' t' e => ?_))
  obtain ⟨rfl, hi⟩ := e
  rw [if_pos rfl]
  exact hk t' hi
theorem lc_cut {N L : Nat} {xs : Nat → Int32} {Inv : Ms → Prop} (C : Call_cut N Inv) {k : Int32 × Ms → Option (Int32 × Ms)} {l3 : Int32} {σ : Ms} (hI : Inv σ) (h1 : ixb (l3 + (1 : Int32)) L = true) (h2 : ixb (l3 + (2 : Int32)) L = true) (h3 : ixb (l3 + (3 : Int32)) L = true) (h4 : ixb (l3 + (4 : Int32)) L = true) (h5 : ixb (l3 + (5 : Int32)) L = true) (hk : ∀ τ, Inv τ → wp (k (l3 + (6 : Int32), τ)) fun r _ => r = 1) : wp (FL_law_b781 N L xs k l3 σ) fun r _ => r = 1 := by
  unfold FL_law_b781
  try simp only [h1, h2, h3, h4, h5, ck_t]
  refine wp_bn.mpr (wp_mono (C _ _ _ hI) fun r t h => wp_bn.mpr (wp_mono h fun r' t' e => ?_))
  obtain ⟨rfl, hi⟩ := e
  rw [if_pos rfl]
  exact hk t' hi
theorem lc_take {N L : Nat} {xs : Nat → Int32} {Inv : Ms → Prop} (C : Call_take N Inv) {k : Int32 × Ms → Option (Int32 × Ms)} {l3 : Int32} {σ : Ms} (hI : Inv σ) (h1 : ixb (l3 + (1 : Int32)) L = true) (h2 : ixb (l3 + (2 : Int32)) L = true) (h3 : ixb (l3 + (3 : Int32)) L = true) (h4 : ixb (l3 + (4 : Int32)) L = true) (h5 : ixb (l3 + (5 : Int32)) L = true) (hk : ∀ τ, Inv τ → wp (k (l3 + (6 : Int32), τ)) fun r _ => r = 1) : wp (FL_law_b814 N L xs k l3 σ) fun r _ => r = 1 := by
  unfold FL_law_b814
  try simp only [h1, h2, h3, h4, h5, ck_t]
  refine wp_bn.mpr (wp_mono (C _ _ _ hI) fun r t h => wp_bn.mpr (wp_mono h fun r' t' e => ?_))
  obtain ⟨rfl, hi⟩ := e
  rw [if_pos rfl]
  exact hk t' hi
theorem lc_less {N L : Nat} {xs : Nat → Int32} {Inv : Ms → Prop} (C : Call_less N Inv) {k : Int32 × Ms → Option (Int32 × Ms)} {l3 : Int32} {σ : Ms} (hI : Inv σ) (h1 : ixb (l3 + (1 : Int32)) L = true) (h2 : ixb (l3 + (2 : Int32)) L = true) (h3 : ixb (l3 + (3 : Int32)) L = true) (h4 : ixb (l3 + (4 : Int32)) L = true) (h5 : ixb (l3 + (5 : Int32)) L = true) (hk : ∀ τ, Inv τ → wp (k (l3 + (6 : Int32), τ)) fun r _ => r = 1) : wp (FL_law_b847 N L xs k l3 σ) fun r _ => r = 1 := by
  unfold FL_law_b847
  try simp only [h1, h2, h3, h4, h5, ck_t]
  refine wp_bn.mpr (wp_mono (C _ _ _ hI) fun r t h => wp_bn.mpr (wp_mono h fun r' t' e => ?_))
  obtain ⟨rfl, hi⟩ := e
  rw [if_pos rfl]
  exact hk t' hi
theorem lc_spend {N L : Nat} {xs : Nat → Int32} {Inv : Ms → Prop} (C : Call_spend N Inv) {k : Int32 × Ms → Option (Int32 × Ms)} {l3 : Int32} {σ : Ms} (hI : Inv σ) (h1 : ixb (l3 + (1 : Int32)) L = true) (h2 : ixb (l3 + (2 : Int32)) L = true) (h3 : ixb (l3 + (3 : Int32)) L = true) (h4 : ixb (l3 + (4 : Int32)) L = true) (h5 : ixb (l3 + (5 : Int32)) L = true) (hk : ∀ τ, Inv τ → wp (k (l3 + (6 : Int32), τ)) fun r _ => r = 1) : wp (FL_law_b880 N L xs k l3 σ) fun r _ => r = 1 := by
  unfold FL_law_b880
  try simp only [h1, h2, h3, h4, h5, ck_t]
  refine wp_bn.mpr (wp_mono (C _ _ hI) fun r t h => wp_bn.mpr (wp_mono h fun r' t' e => ?_))
  obtain ⟨rfl, hi⟩ := e
  rw [if_pos rfl]
  exact hk t' hi
theorem lc_grow {N L : Nat} {xs : Nat → Int32} {Inv : Ms → Prop} (C : Call_grow N Inv) {k : Int32 × Ms → Option (Int32 × Ms)} {l3 : Int32} {σ : Ms} (hI : Inv σ) (h1 : ixb (l3 + (1 : Int32)) L = true) (h2 : ixb (l3 + (2 : Int32)) L = true) (h3 : ixb (l3 + (3 : Int32)) L = true) (h4 : ixb (l3 + (4 : Int32)) L = true) (h5 : ixb (l3 + (5 : Int32)) L = true) (hk : ∀ τ, Inv τ → wp (k (l3 + (6 : Int32), τ)) fun r _ => r = 1) : wp (FL_law_b903 N L xs k l3 σ) fun r _ => r = 1 := by
  unfold FL_law_b903
  try simp only [h1, h2, h3, h4, h5, ck_t]
  refine wp_bn.mpr (wp_mono (C _ _ _ hI) fun r t h => wp_bn.mpr (wp_mono h fun r' t' e => ?_))
  obtain ⟨rfl, hi⟩ := e
  rw [if_pos rfl]
  exact hk t' hi
theorem lc_paint {N L : Nat} {xs : Nat → Int32} {Inv : Ms → Prop} (C : Call_paint N Inv) {k : Int32 × Ms → Option (Int32 × Ms)} {l3 : Int32} {σ : Ms} (hI : Inv σ) (h1 : ixb (l3 + (1 : Int32)) L = true) (h2 : ixb (l3 + (2 : Int32)) L = true) (h3 : ixb (l3 + (3 : Int32)) L = true) (h4 : ixb (l3 + (4 : Int32)) L = true) (h5 : ixb (l3 + (5 : Int32)) L = true) (hk : ∀ τ, Inv τ → wp (k (l3 + (6 : Int32), τ)) fun r _ => r = 1) : wp (FL_law_b936 N L xs k l3 σ) fun r _ => r = 1 := by
  unfold FL_law_b936
  try simp only [h1, h2, h3, h4, h5, ck_t]
  refine wp_bn.mpr (wp_mono (C _ _ hI) fun r t h => wp_bn.mpr (wp_mono h fun r' t' e => ?_))
  obtain ⟨rfl, hi⟩ := e
  rw [if_pos rfl]
  exact hk t' hi
theorem lc_pile {N L : Nat} {xs : Nat → Int32} {Inv : Ms → Prop} (C : Call_pile N Inv) {k : Int32 × Ms → Option (Int32 × Ms)} {l3 : Int32} {σ : Ms} (hI : Inv σ) (h1 : ixb (l3 + (1 : Int32)) L = true) (h2 : ixb (l3 + (2 : Int32)) L = true) (h3 : ixb (l3 + (3 : Int32)) L = true) (h4 : ixb (l3 + (4 : Int32)) L = true) (h5 : ixb (l3 + (5 : Int32)) L = true) (hk : ∀ τ, Inv τ → wp (k (l3 + (6 : Int32), τ)) fun r _ => r = 1) : wp (FL_law_b959 N L xs k l3 σ) fun r _ => r = 1 := by
  unfold FL_law_b959
  try simp only [h1, h2, h3, h4, h5, ck_t]
  refine wp_bn.mpr (wp_mono (C _ _ hI) fun r t h => wp_bn.mpr (wp_mono h fun r' t' e => ?_))
  obtain ⟨rfl, hi⟩ := e
  rw [if_pos rfl]
  exact hk t' hi
theorem lc_offer {N L : Nat} {xs : Nat → Int32} {Inv : Ms → Prop} (C : Call_offer N Inv) {k : Int32 × Ms → Option (Int32 × Ms)} {l3 : Int32} {σ : Ms} (hI : Inv σ) (h1 : ixb (l3 + (1 : Int32)) L = true) (h2 : ixb (l3 + (2 : Int32)) L = true) (h3 : ixb (l3 + (3 : Int32)) L = true) (h4 : ixb (l3 + (4 : Int32)) L = true) (h5 : ixb (l3 + (5 : Int32)) L = true) (hk : ∀ τ, Inv τ → wp (k (l3 + (6 : Int32), τ)) fun r _ => r = 1) : wp (FL_law_b982 N L xs k l3 σ) fun r _ => r = 1 := by
  unfold FL_law_b982
  try simp only [h1, h2, h3, h4, h5, ck_t]
  refine wp_bn.mpr (wp_mono (C _ _ _ hI) fun r t h => wp_bn.mpr (wp_mono h fun r' t' e => ?_))
  obtain ⟨rfl, hi⟩ := e
  rw [if_pos rfl]
  exact hk t' hi
theorem lc_worth {N L : Nat} {xs : Nat → Int32} {Inv : Ms → Prop} (C : Call_worth N Inv) {k : Int32 × Ms → Option (Int32 × Ms)} {l3 : Int32} {σ : Ms} (hI : Inv σ) (h1 : ixb (l3 + (1 : Int32)) L = true) (h2 : ixb (l3 + (2 : Int32)) L = true) (h3 : ixb (l3 + (3 : Int32)) L = true) (h4 : ixb (l3 + (4 : Int32)) L = true) (h5 : ixb (l3 + (5 : Int32)) L = true) (hk : ∀ τ, Inv τ → wp (k (l3 + (6 : Int32), τ)) fun r _ => r = 1) : wp (FL_law_b1015 N L xs k l3 σ) fun r _ => r = 1 := by
  unfold FL_law_b1015
  try simp only [h1, h2, h3, h4, h5, ck_t]
  refine wp_bn.mpr (wp_mono (C  _ hI) fun r t h => wp_bn.mpr (wp_mono h fun r' t' e => ?_))
  obtain ⟨rfl, hi⟩ := e
  rw [if_pos rfl]
  exact hk t' hi
theorem lc_worthOf {N L : Nat} {xs : Nat → Int32} {Inv : Ms → Prop} (C : Call_worthOf N Inv) {k : Int32 × Ms → Option (Int32 × Ms)} {l3 : Int32} {σ : Ms} (hI : Inv σ) (h1 : ixb (l3 + (1 : Int32)) L = true) (h2 : ixb (l3 + (2 : Int32)) L = true) (h3 : ixb (l3 + (3 : Int32)) L = true) (h4 : ixb (l3 + (4 : Int32)) L = true) (h5 : ixb (l3 + (5 : Int32)) L = true) (hk : ∀ τ, Inv τ → wp (k (l3 + (6 : Int32), τ)) fun r _ => r = 1) : wp (FL_law_b1028 N L xs k l3 σ) fun r _ => r = 1 := by
  unfold FL_law_b1028
  try simp only [h1, h2, h3, h4, h5, ck_t]
  refine wp_bn.mpr (wp_mono (C _ _ hI) fun r t h => wp_bn.mpr (wp_mono h fun r' t' e => ?_))
  obtain ⟨rfl, hi⟩ := e
  rw [if_pos rfl]
  exact hk t' hi
theorem lc_nimber {N L : Nat} {xs : Nat → Int32} {Inv : Ms → Prop} (C : Call_nimber N Inv) {k : Int32 × Ms → Option (Int32 × Ms)} {l3 : Int32} {σ : Ms} (hI : Inv σ) (h1 : ixb (l3 + (1 : Int32)) L = true) (h2 : ixb (l3 + (2 : Int32)) L = true) (h3 : ixb (l3 + (3 : Int32)) L = true) (h4 : ixb (l3 + (4 : Int32)) L = true) (h5 : ixb (l3 + (5 : Int32)) L = true) (hk : ∀ τ, Inv τ → wp (k (l3 + (6 : Int32), τ)) fun r _ => r = 1) : wp (FL_law_b1051 N L xs k l3 σ) fun r _ => r = 1 := by
  unfold FL_law_b1051
  try simp only [h1, h2, h3, h4, h5, ck_t]
  refine wp_bn.mpr (wp_mono (C  _ hI) fun r t h => wp_bn.mpr (wp_mono h fun r' t' e => ?_))
  obtain ⟨rfl, hi⟩ := e
  rw [if_pos rfl]
  exact hk t' hi
theorem lc_nimOf {N L : Nat} {xs : Nat → Int32} {Inv : Ms → Prop} (C : Call_nimOf N Inv) {k : Int32 × Ms → Option (Int32 × Ms)} {l3 : Int32} {σ : Ms} (hI : Inv σ) (h1 : ixb (l3 + (1 : Int32)) L = true) (h2 : ixb (l3 + (2 : Int32)) L = true) (h3 : ixb (l3 + (3 : Int32)) L = true) (h4 : ixb (l3 + (4 : Int32)) L = true) (h5 : ixb (l3 + (5 : Int32)) L = true) (hk : ∀ τ, Inv τ → wp (k (l3 + (6 : Int32), τ)) fun r _ => r = 1) : wp (FL_law_b1064 N L xs k l3 σ) fun r _ => r = 1 := by
  unfold FL_law_b1064
  try simp only [h1, h2, h3, h4, h5, ck_t]
  refine wp_bn.mpr (wp_mono (C _ _ hI) fun r t h => wp_bn.mpr (wp_mono h fun r' t' e => ?_))
  obtain ⟨rfl, hi⟩ := e
  rw [if_pos rfl]
  exact hk t' hi
theorem lc_compare {N L : Nat} {xs : Nat → Int32} {Inv : Ms → Prop} (C : Call_compare N Inv) {k : Int32 × Ms → Option (Int32 × Ms)} {l3 : Int32} {σ : Ms} (hI : Inv σ) (h1 : ixb (l3 + (1 : Int32)) L = true) (h2 : ixb (l3 + (2 : Int32)) L = true) (h3 : ixb (l3 + (3 : Int32)) L = true) (h4 : ixb (l3 + (4 : Int32)) L = true) (h5 : ixb (l3 + (5 : Int32)) L = true) (hk : ∀ τ, Inv τ → wp (k (l3 + (6 : Int32), τ)) fun r _ => r = 1) : wp (FL_law_b1087 N L xs k l3 σ) fun r _ => r = 1 := by
  unfold FL_law_b1087
  try simp only [h1, h2, h3, h4, h5, ck_t]
  refine wp_bn.mpr (wp_mono (C _ _ _ hI) fun r t h => wp_bn.mpr (wp_mono h fun r' t' e => ?_))
  obtain ⟨rfl, hi⟩ := e
  rw [if_pos rfl]
  exact hk t' hi
theorem lc_outcome {N L : Nat} {xs : Nat → Int32} {Inv : Ms → Prop} (C : Call_outcome N Inv) {k : Int32 × Ms → Option (Int32 × Ms)} {l3 : Int32} {σ : Ms} (hI : Inv σ) (h1 : ixb (l3 + (1 : Int32)) L = true) (h2 : ixb (l3 + (2 : Int32)) L = true) (h3 : ixb (l3 + (3 : Int32)) L = true) (h4 : ixb (l3 + (4 : Int32)) L = true) (h5 : ixb (l3 + (5 : Int32)) L = true) (hk : ∀ τ, Inv τ → wp (k (l3 + (6 : Int32), τ)) fun r _ => r = 1) : wp (FL_law_b1120 N L xs k l3 σ) fun r _ => r = 1 := by
  unfold FL_law_b1120
  try simp only [h1, h2, h3, h4, h5, ck_t]
  refine wp_bn.mpr (wp_mono (C  _ hI) fun r t h => wp_bn.mpr (wp_mono h fun r' t' e => ?_))
  obtain ⟨rfl, hi⟩ := e
  rw [if_pos rfl]
  exact hk t' hi
theorem lc_winner {N L : Nat} {xs : Nat → Int32} {Inv : Ms → Prop} (C : Call_winner N Inv) {k : Int32 × Ms → Option (Int32 × Ms)} {l3 : Int32} {σ : Ms} (hI : Inv σ) (h1 : ixb (l3 + (1 : Int32)) L = true) (h2 : ixb (l3 + (2 : Int32)) L = true) (h3 : ixb (l3 + (3 : Int32)) L = true) (h4 : ixb (l3 + (4 : Int32)) L = true) (h5 : ixb (l3 + (5 : Int32)) L = true) (hk : ∀ τ, Inv τ → wp (k (l3 + (6 : Int32), τ)) fun r _ => r = 1) : wp (FL_law_b1133 N L xs k l3 σ) fun r _ => r = 1 := by
  unfold FL_law_b1133
  try simp only [h1, h2, h3, h4, h5, ck_t]
  refine wp_bn.mpr (wp_mono (C _ _ hI) fun r t h => wp_bn.mpr (wp_mono h fun r' t' e => ?_))
  obtain ⟨rfl, hi⟩ := e
  rw [if_pos rfl]
  exact hk t' hi
theorem lc_moves {N L : Nat} {xs : Nat → Int32} {Inv : Ms → Prop} (C : Call_moves N Inv) {k : Int32 × Ms → Option (Int32 × Ms)} {l3 : Int32} {σ : Ms} (hI : Inv σ) (h1 : ixb (l3 + (1 : Int32)) L = true) (h2 : ixb (l3 + (2 : Int32)) L = true) (h3 : ixb (l3 + (3 : Int32)) L = true) (h4 : ixb (l3 + (4 : Int32)) L = true) (h5 : ixb (l3 + (5 : Int32)) L = true) (hk : ∀ τ, Inv τ → wp (k (l3 + (6 : Int32), τ)) fun r _ => r = 1) : wp (FL_law_b1156 N L xs k l3 σ) fun r _ => r = 1 := by
  unfold FL_law_b1156
  try simp only [h1, h2, h3, h4, h5, ck_t]
  refine wp_bn.mpr (wp_mono (C _ _ hI) fun r t h => wp_bn.mpr (wp_mono h fun r' t' e => ?_))
  obtain ⟨rfl, hi⟩ := e
  rw [if_pos rfl]
  exact hk t' hi
theorem lc_wins {N L : Nat} {xs : Nat → Int32} {Inv : Ms → Prop} (C : Call_wins N Inv) {k : Int32 × Ms → Option (Int32 × Ms)} {l3 : Int32} {σ : Ms} (hI : Inv σ) (h1 : ixb (l3 + (1 : Int32)) L = true) (h2 : ixb (l3 + (2 : Int32)) L = true) (h3 : ixb (l3 + (3 : Int32)) L = true) (h4 : ixb (l3 + (4 : Int32)) L = true) (h5 : ixb (l3 + (5 : Int32)) L = true) (hk : ∀ τ, Inv τ → wp (k (l3 + (6 : Int32), τ)) fun r _ => r = 1) : wp (FL_law_b1179 N L xs k l3 σ) fun r _ => r = 1 := by
  unfold FL_law_b1179
  try simp only [h1, h2, h3, h4, h5, ck_t]
  refine wp_bn.mpr (wp_mono (C _ _ hI) fun r t h => wp_bn.mpr (wp_mono h fun r' t' e => ?_))
  obtain ⟨rfl, hi⟩ := e
  rw [if_pos rfl]
  exact hk t' hi
theorem lc_bestOf {N L : Nat} {xs : Nat → Int32} {Inv : Ms → Prop} (C : Call_bestOf N Inv) {k : Int32 × Ms → Option (Int32 × Ms)} {l3 : Int32} {σ : Ms} (hI : Inv σ) (h1 : ixb (l3 + (1 : Int32)) L = true) (h2 : ixb (l3 + (2 : Int32)) L = true) (h3 : ixb (l3 + (3 : Int32)) L = true) (h4 : ixb (l3 + (4 : Int32)) L = true) (h5 : ixb (l3 + (5 : Int32)) L = true) (hk : ∀ τ, Inv τ → wp (k (l3 + (6 : Int32), τ)) fun r _ => r = 1) : wp (FL_law_b1202 N L xs k l3 σ) fun r _ => r = 1 := by
  unfold FL_law_b1202
  try simp only [h1, h2, h3, h4, h5, ck_t]
  refine wp_bn.mpr (wp_mono (C _ _ _ hI) fun r t h => wp_bn.mpr (wp_mono h fun r' t' e => ?_))
  obtain ⟨rfl, hi⟩ := e
  rw [if_pos rfl]
  exact hk t' hi
theorem lc_stop {N L : Nat} {xs : Nat → Int32} {Inv : Ms → Prop} (C : Call_stop N Inv) {k : Int32 × Ms → Option (Int32 × Ms)} {l3 : Int32} {σ : Ms} (hI : Inv σ) (h1 : ixb (l3 + (1 : Int32)) L = true) (h2 : ixb (l3 + (2 : Int32)) L = true) (h3 : ixb (l3 + (3 : Int32)) L = true) (h4 : ixb (l3 + (4 : Int32)) L = true) (h5 : ixb (l3 + (5 : Int32)) L = true) (hk : ∀ τ, Inv τ → wp (k (l3 + (6 : Int32), τ)) fun r _ => r = 1) : wp (FL_law_b1235 N L xs k l3 σ) fun r _ => r = 1 := by
  unfold FL_law_b1235
  try simp only [h1, h2, h3, h4, h5, ck_t]
  refine wp_bn.mpr (wp_mono (C _ _ hI) fun r t h => wp_bn.mpr (wp_mono h fun r' t' e => ?_))
  obtain ⟨rfl, hi⟩ := e
  rw [if_pos rfl]
  exact hk t' hi
theorem lc_hottest {N L : Nat} {xs : Nat → Int32} {Inv : Ms → Prop} (C : Call_hottest N Inv) {k : Int32 × Ms → Option (Int32 × Ms)} {l3 : Int32} {σ : Ms} (hI : Inv σ) (h1 : ixb (l3 + (1 : Int32)) L = true) (h2 : ixb (l3 + (2 : Int32)) L = true) (h3 : ixb (l3 + (3 : Int32)) L = true) (h4 : ixb (l3 + (4 : Int32)) L = true) (h5 : ixb (l3 + (5 : Int32)) L = true) (hk : ∀ τ, Inv τ → wp (k (l3 + (6 : Int32), τ)) fun r _ => r = 1) : wp (FL_law_b1258 N L xs k l3 σ) fun r _ => r = 1 := by
  unfold FL_law_b1258
  try simp only [h1, h2, h3, h4, h5, ck_t]
  refine wp_bn.mpr (wp_mono (C  _ hI) fun r t h => wp_bn.mpr (wp_mono h fun r' t' e => ?_))
  obtain ⟨rfl, hi⟩ := e
  rw [if_pos rfl]
  exact hk t' hi
theorem lc_heat {N L : Nat} {xs : Nat → Int32} {Inv : Ms → Prop} (C : Call_heat N Inv) {k : Int32 × Ms → Option (Int32 × Ms)} {l3 : Int32} {σ : Ms} (hI : Inv σ) (h1 : ixb (l3 + (1 : Int32)) L = true) (h2 : ixb (l3 + (2 : Int32)) L = true) (h3 : ixb (l3 + (3 : Int32)) L = true) (h4 : ixb (l3 + (4 : Int32)) L = true) (h5 : ixb (l3 + (5 : Int32)) L = true) (hk : ∀ τ, Inv τ → wp (k (l3 + (6 : Int32), τ)) fun r _ => r = 1) : wp (FL_law_b1271 N L xs k l3 σ) fun r _ => r = 1 := by
  unfold FL_law_b1271
  try simp only [h1, h2, h3, h4, h5, ck_t]
  refine wp_bn.mpr (wp_mono (C _ _ _ hI) fun r t h => wp_bn.mpr (wp_mono h fun r' t' e => ?_))
  obtain ⟨rfl, hi⟩ := e
  rw [if_pos rfl]
  exact hk t' hi
theorem lc_simplest {N L : Nat} {xs : Nat → Int32} {Inv : Ms → Prop} (C : Call_simplest N Inv) {k : Int32 × Ms → Option (Int32 × Ms)} {l3 : Int32} {σ : Ms} (hI : Inv σ) (h1 : ixb (l3 + (1 : Int32)) L = true) (h2 : ixb (l3 + (2 : Int32)) L = true) (h3 : ixb (l3 + (3 : Int32)) L = true) (h4 : ixb (l3 + (4 : Int32)) L = true) (h5 : ixb (l3 + (5 : Int32)) L = true) (hk : ∀ τ, Inv τ → wp (k (l3 + (6 : Int32), τ)) fun r _ => r = 1) : wp (FL_law_b1304 N L xs k l3 σ) fun r _ => r = 1 := by
  unfold FL_law_b1304
  try simp only [h1, h2, h3, h4, h5, ck_t]
  refine wp_bn.mpr (wp_mono (C _ _ _ _ _ hI) fun r t h => wp_bn.mpr (wp_mono h fun r' t' e => ?_))
  obtain ⟨rfl, hi⟩ := e
  rw [if_pos rfl]
  exact hk t' hi
theorem lc_birthday {N L : Nat} {xs : Nat → Int32} {Inv : Ms → Prop} (C : Call_birthday N Inv) {k : Int32 × Ms → Option (Int32 × Ms)} {l3 : Int32} {σ : Ms} (hI : Inv σ) (h1 : ixb (l3 + (1 : Int32)) L = true) (h2 : ixb (l3 + (2 : Int32)) L = true) (h3 : ixb (l3 + (3 : Int32)) L = true) (h4 : ixb (l3 + (4 : Int32)) L = true) (h5 : ixb (l3 + (5 : Int32)) L = true) (hk : ∀ τ, Inv τ → wp (k (l3 + (6 : Int32), τ)) fun r _ => r = 1) : wp (FL_law_b1357 N L xs k l3 σ) fun r _ => r = 1 := by
  unfold FL_law_b1357
  try simp only [h1, h2, h3, h4, h5, ck_t]
  refine wp_bn.mpr (wp_mono (C _ _ _ hI) fun r t h => wp_bn.mpr (wp_mono h fun r' t' e => ?_))
  obtain ⟨rfl, hi⟩ := e
  rw [if_pos rfl]
  exact hk t' hi
theorem lc_stalkAt {N L : Nat} {xs : Nat → Int32} {Inv : Ms → Prop} (C : Call_stalkAt N Inv) {k : Int32 × Ms → Option (Int32 × Ms)} {l3 : Int32} {σ : Ms} (hI : Inv σ) (h1 : ixb (l3 + (1 : Int32)) L = true) (h2 : ixb (l3 + (2 : Int32)) L = true) (h3 : ixb (l3 + (3 : Int32)) L = true) (h4 : ixb (l3 + (4 : Int32)) L = true) (h5 : ixb (l3 + (5 : Int32)) L = true) (hk : ∀ τ, Inv τ → wp (k (l3 + (6 : Int32), τ)) fun r _ => r = 1) : wp (FL_law_b1390 N L xs k l3 σ) fun r _ => r = 1 := by
  unfold FL_law_b1390
  try simp only [h1, h2, h3, h4, h5, ck_t]
  refine wp_bn.mpr (wp_mono (C _ _ _ _ hI) fun r t h => wp_bn.mpr (wp_mono h fun r' t' e => ?_))
  obtain ⟨rfl, hi⟩ := e
  rw [if_pos rfl]
  exact hk t' hi
theorem lc_stalkWorth {N L : Nat} {xs : Nat → Int32} {Inv : Ms → Prop} (C : Call_stalkWorth N Inv) {k : Int32 × Ms → Option (Int32 × Ms)} {l3 : Int32} {σ : Ms} (hI : Inv σ) (h1 : ixb (l3 + (1 : Int32)) L = true) (h2 : ixb (l3 + (2 : Int32)) L = true) (h3 : ixb (l3 + (3 : Int32)) L = true) (h4 : ixb (l3 + (4 : Int32)) L = true) (h5 : ixb (l3 + (5 : Int32)) L = true) (hk : ∀ τ, Inv τ → wp (k (l3 + (6 : Int32), τ)) fun r _ => r = 1) : wp (FL_law_b1433 N L xs k l3 σ) fun r _ => r = 1 := by
  unfold FL_law_b1433
  try simp only [h1, h2, h3, h4, h5, ck_t]
  refine wp_bn.mpr (wp_mono (C _ _ _ hI) fun r t h => wp_bn.mpr (wp_mono h fun r' t' e => ?_))
  obtain ⟨rfl, hi⟩ := e
  rw [if_pos rfl]
  exact hk t' hi
theorem lc_colourings {N L : Nat} {xs : Nat → Int32} {Inv : Ms → Prop} (C : Call_colourings N Inv) {k : Int32 × Ms → Option (Int32 × Ms)} {l3 : Int32} {σ : Ms} (hI : Inv σ) (h1 : ixb (l3 + (1 : Int32)) L = true) (h2 : ixb (l3 + (2 : Int32)) L = true) (h3 : ixb (l3 + (3 : Int32)) L = true) (h4 : ixb (l3 + (4 : Int32)) L = true) (h5 : ixb (l3 + (5 : Int32)) L = true) (hk : ∀ τ, Inv τ → wp (k (l3 + (6 : Int32), τ)) fun r _ => r = 1) : wp (FL_law_b1466 N L xs k l3 σ) fun r _ => r = 1 := by
  unfold FL_law_b1466
  try simp only [h1, h2, h3, h4, h5, ck_t]
  refine wp_bn.mpr (wp_mono (C _ _ _ _ hI) fun r t h => wp_bn.mpr (wp_mono h fun r' t' e => ?_))
  obtain ⟨rfl, hi⟩ := e
  rw [if_pos rfl]
  exact hk t' hi
theorem lc_firstRed {N L : Nat} {xs : Nat → Int32} {Inv : Ms → Prop} (C : Call_firstRed N Inv) {k : Int32 × Ms → Option (Int32 × Ms)} {l3 : Int32} {σ : Ms} (hI : Inv σ) (h1 : ixb (l3 + (1 : Int32)) L = true) (h2 : ixb (l3 + (2 : Int32)) L = true) (h3 : ixb (l3 + (3 : Int32)) L = true) (h4 : ixb (l3 + (4 : Int32)) L = true) (h5 : ixb (l3 + (5 : Int32)) L = true) (hk : ∀ τ, Inv τ → wp (k (l3 + (6 : Int32), τ)) fun r _ => r = 1) : wp (FL_law_b1509 N L xs k l3 σ) fun r _ => r = 1 := by
  unfold FL_law_b1509
  try simp only [h1, h2, h3, h4, h5, ck_t]
  refine wp_bn.mpr (wp_mono (C _ _ _ _ hI) fun r t h => wp_bn.mpr (wp_mono h fun r' t' e => ?_))
  obtain ⟨rfl, hi⟩ := e
  rw [if_pos rfl]
  exact hk t' hi
theorem lc_oddsBlue {N L : Nat} {xs : Nat → Int32} {Inv : Ms → Prop} (C : Call_oddsBlue N Inv) {k : Int32 × Ms → Option (Int32 × Ms)} {l3 : Int32} {σ : Ms} (hI : Inv σ) (h1 : ixb (l3 + (1 : Int32)) L = true) (h2 : ixb (l3 + (2 : Int32)) L = true) (h3 : ixb (l3 + (3 : Int32)) L = true) (h4 : ixb (l3 + (4 : Int32)) L = true) (h5 : ixb (l3 + (5 : Int32)) L = true) (hk : ∀ τ, Inv τ → wp (k (l3 + (6 : Int32), τ)) fun r _ => r = 1) : wp (FL_law_b1552 N L xs k l3 σ) fun r _ => r = 1 := by
  unfold FL_law_b1552
  try simp only [h1, h2, h3, h4, h5, ck_t]
  refine wp_bn.mpr (wp_mono (C _ _ _ _ _ hI) fun r t h => wp_bn.mpr (wp_mono h fun r' t' e => ?_))
  obtain ⟨rfl, hi⟩ := e
  rw [if_pos rfl]
  exact hk t' hi
theorem lc_ask {N L : Nat} {xs : Nat → Int32} {Inv : Ms → Prop} (C : Call_ask N Inv) {k : Int32 × Ms → Option (Int32 × Ms)} {l3 : Int32} {σ : Ms} (hI : Inv σ) (h1 : ixb (l3 + (1 : Int32)) L = true) (h2 : ixb (l3 + (2 : Int32)) L = true) (h3 : ixb (l3 + (3 : Int32)) L = true) (h4 : ixb (l3 + (4 : Int32)) L = true) (h5 : ixb (l3 + (5 : Int32)) L = true) (hk : ∀ τ, Inv τ → wp (k (l3 + (6 : Int32), τ)) fun r _ => r = 1) : wp (FL_law_b1605 N L xs k l3 σ) fun r _ => r = 1 := by
  unfold FL_law_b1605
  try simp only [h1, h2, h3, h4, h5, ck_t]
  refine wp_bn.mpr (wp_mono (C _ _ _ _ hI) fun r t h => wp_bn.mpr (wp_mono h fun r' t' e => ?_))
  obtain ⟨rfl, hi⟩ := e
  rw [if_pos rfl]
  exact hk t' hi
theorem lc_balance {N L : Nat} {xs : Nat → Int32} {Inv : Ms → Prop} (C : Call_balance N Inv) {k : Int32 × Ms → Option (Int32 × Ms)} {l3 : Int32} {σ : Ms} (hI : Inv σ) (h1 : ixb (l3 + (1 : Int32)) L = true) (h2 : ixb (l3 + (2 : Int32)) L = true) (h3 : ixb (l3 + (3 : Int32)) L = true) (h4 : ixb (l3 + (4 : Int32)) L = true) (h5 : ixb (l3 + (5 : Int32)) L = true) (hk : ∀ τ, Inv τ → wp (k (l3 + (6 : Int32), τ)) fun r _ => r = 1) : wp (FL_law_b1648 N L xs k l3 σ) fun r _ => r = 1 := by
  unfold FL_law_b1648
  try simp only [h1, h2, h3, h4, h5, ck_t]
  refine wp_bn.mpr (wp_mono (C  _ hI) fun r t h => wp_bn.mpr (wp_mono h fun r' t' e => ?_))
  obtain ⟨rfl, hi⟩ := e
  rw [if_pos rfl]
  exact hk t' hi
theorem lc_balanceSet {N L : Nat} {xs : Nat → Int32} {Inv : Ms → Prop} (C : Call_balanceSet N Inv) {k : Int32 × Ms → Option (Int32 × Ms)} {l3 : Int32} {σ : Ms} (hI : Inv σ) (h1 : ixb (l3 + (1 : Int32)) L = true) (h2 : ixb (l3 + (2 : Int32)) L = true) (h3 : ixb (l3 + (3 : Int32)) L = true) (h4 : ixb (l3 + (4 : Int32)) L = true) (h5 : ixb (l3 + (5 : Int32)) L = true) (hk : ∀ τ, Inv τ → wp (k (l3 + (6 : Int32), τ)) fun r _ => r = 1) : wp (FL_law_b1661 N L xs k l3 σ) fun r _ => r = 1 := by
  unfold FL_law_b1661
  try simp only [h1, h2, h3, h4, h5, ck_t]
  refine wp_bn.mpr (wp_mono (C  _ hI) fun r t h => wp_bn.mpr (wp_mono h fun r' t' e => ?_))
  obtain ⟨rfl, hi⟩ := e
  rw [if_pos rfl]
  exact hk t' hi
theorem lc_luck {N L : Nat} {xs : Nat → Int32} {Inv : Ms → Prop} (C : Call_luck N Inv) {k : Int32 × Ms → Option (Int32 × Ms)} {l3 : Int32} {σ : Ms} (hI : Inv σ) (h1 : ixb (l3 + (1 : Int32)) L = true) (h2 : ixb (l3 + (2 : Int32)) L = true) (h3 : ixb (l3 + (3 : Int32)) L = true) (h4 : ixb (l3 + (4 : Int32)) L = true) (h5 : ixb (l3 + (5 : Int32)) L = true) (hk : ∀ τ, Inv τ → wp (k (l3 + (6 : Int32), τ)) fun r _ => r = 1) : wp (FL_law_b1674 N L xs k l3 σ) fun r _ => r = 1 := by
  unfold FL_law_b1674
  try simp only [h1, h2, h3, h4, h5, ck_t]
  refine wp_bn.mpr (wp_mono (C _ _ hI) fun r t h => wp_bn.mpr (wp_mono h fun r' t' e => ?_))
  obtain ⟨rfl, hi⟩ := e
  rw [if_pos rfl]
  exact hk t' hi
theorem lc_live {N L : Nat} {xs : Nat → Int32} {Inv : Ms → Prop} (C : Call_live N Inv) {k : Int32 × Ms → Option (Int32 × Ms)} {l3 : Int32} {σ : Ms} (hI : Inv σ) (h1 : ixb (l3 + (1 : Int32)) L = true) (h2 : ixb (l3 + (2 : Int32)) L = true) (h3 : ixb (l3 + (3 : Int32)) L = true) (h4 : ixb (l3 + (4 : Int32)) L = true) (h5 : ixb (l3 + (5 : Int32)) L = true) (hk : ∀ τ, Inv τ → wp (k (l3 + (6 : Int32), τ)) fun r _ => r = 1) : wp (FL_law_b1697 N L xs k l3 σ) fun r _ => r = 1 := by
  unfold FL_law_b1697
  try simp only [h1, h2, h3, h4, h5, ck_t]
  refine wp_bn.mpr (wp_mono (C _ _ hI) fun r t h => wp_bn.mpr (wp_mono h fun r' t' e => ?_))
  obtain ⟨rfl, hi⟩ := e
  rw [if_pos rfl]
  exact hk t' hi
theorem lc_lived {N L : Nat} {xs : Nat → Int32} {Inv : Ms → Prop} (C : Call_lived N Inv) {k : Int32 × Ms → Option (Int32 × Ms)} {l3 : Int32} {σ : Ms} (hI : Inv σ) (h1 : ixb (l3 + (1 : Int32)) L = true) (h2 : ixb (l3 + (2 : Int32)) L = true) (h3 : ixb (l3 + (3 : Int32)) L = true) (h4 : ixb (l3 + (4 : Int32)) L = true) (h5 : ixb (l3 + (5 : Int32)) L = true) (hk : ∀ τ, Inv τ → wp (k (l3 + (6 : Int32), τ)) fun r _ => r = 1) : wp (FL_law_b1720 N L xs k l3 σ) fun r _ => r = 1 := by
  unfold FL_law_b1720
  try simp only [h1, h2, h3, h4, h5, ck_t]
  refine wp_bn.mpr (wp_mono (C _ _ hI) fun r t h => wp_bn.mpr (wp_mono h fun r' t' e => ?_))
  obtain ⟨rfl, hi⟩ := e
  rw [if_pos rfl]
  exact hk t' hi
theorem lc_mean {N L : Nat} {xs : Nat → Int32} {Inv : Ms → Prop} (C : Call_mean N Inv) {k : Int32 × Ms → Option (Int32 × Ms)} {l3 : Int32} {σ : Ms} (hI : Inv σ) (h1 : ixb (l3 + (1 : Int32)) L = true) (h2 : ixb (l3 + (2 : Int32)) L = true) (h3 : ixb (l3 + (3 : Int32)) L = true) (h4 : ixb (l3 + (4 : Int32)) L = true) (h5 : ixb (l3 + (5 : Int32)) L = true) (hk : ∀ τ, Inv τ → wp (k (l3 + (6 : Int32), τ)) fun r _ => r = 1) : wp (FL_law_b1743 N L xs k l3 σ) fun r _ => r = 1 := by
  unfold FL_law_b1743
  try simp only [h1, h2, h3, h4, h5, ck_t]
  refine wp_bn.mpr (wp_mono (C _ _ _ hI) fun r t h => wp_bn.mpr (wp_mono h fun r' t' e => ?_))
  obtain ⟨rfl, hi⟩ := e
  rw [if_pos rfl]
  exact hk t' hi
theorem lc_mark {N L : Nat} {xs : Nat → Int32} {Inv : Ms → Prop} (C : Call_mark N Inv) {k : Int32 × Ms → Option (Int32 × Ms)} {l3 : Int32} {σ : Ms} (hI : Inv σ) (h1 : ixb (l3 + (1 : Int32)) L = true) (h2 : ixb (l3 + (2 : Int32)) L = true) (h3 : ixb (l3 + (3 : Int32)) L = true) (h4 : ixb (l3 + (4 : Int32)) L = true) (h5 : ixb (l3 + (5 : Int32)) L = true) (hk : ∀ τ, Inv τ → wp (k (l3 + (6 : Int32), τ)) fun r _ => r = 1) : wp (FL_law_b1776 N L xs k l3 σ) fun r _ => r = 1 := by
  unfold FL_law_b1776
  try simp only [h1, h2, h3, h4, h5, ck_t]
  refine wp_bn.mpr (wp_mono (C  _ hI) fun r t h => wp_bn.mpr (wp_mono h fun r' t' e => ?_))
  obtain ⟨rfl, hi⟩ := e
  rw [if_pos rfl]
  exact hk t' hi
theorem lc_back {N L : Nat} {xs : Nat → Int32} {Inv : Ms → Prop} (C : Call_back N Inv) {k : Int32 × Ms → Option (Int32 × Ms)} {l3 : Int32} {σ : Ms} (hI : Inv σ) (h1 : ixb (l3 + (1 : Int32)) L = true) (h2 : ixb (l3 + (2 : Int32)) L = true) (h3 : ixb (l3 + (3 : Int32)) L = true) (h4 : ixb (l3 + (4 : Int32)) L = true) (h5 : ixb (l3 + (5 : Int32)) L = true) (hk : ∀ τ, Inv τ → wp (k (l3 + (6 : Int32), τ)) fun r _ => r = 1) : wp (FL_law_b1789 N L xs k l3 σ) fun r _ => r = 1 := by
  unfold FL_law_b1789
  try simp only [h1, h2, h3, h4, h5, ck_t]
  refine wp_bn.mpr (wp_mono (C  _ hI) fun r t h => wp_bn.mpr (wp_mono h fun r' t' e => ?_))
  obtain ⟨rfl, hi⟩ := e
  rw [if_pos rfl]
  exact hk t' hi
theorem law_of {N L : Nat} {xs : Nat → Int32} {Inv : Ms → Prop} (hL : L ≤ 3072) (hN : 3072 < N) (C : Calls N Inv) {σ : Ms} (hI : Inv σ) : wp (FL_law N L xs σ) fun r _ => r = 1 := by
  obtain ⟨c_status, c_top, c_bottom, c_tray, c_write, c_read, c_pour, c_feed, c_hedge, c_seasons, c_fault, c_many, c_sprig, c_heap, c_bet, c_copyColours, c_cut, c_take, c_less, c_spend, c_grow, c_paint, c_pile, c_offer, c_worth, c_worthOf, c_nimber, c_nimOf, c_compare, c_outcome, c_winner, c_moves, c_wins, c_bestOf, c_stop, c_hottest, c_heat, c_simplest, c_birthday, c_stalkAt, c_stalkWorth, c_colourings, c_firstRed, c_oddsBlue, c_ask, c_balance, c_balanceSet, c_luck, c_live, c_lived, c_mean, c_mark, c_back⟩ := C
  unfold FL_law FL_law_b18
  refine wp_fx (fun n x => ∃ l : Nat, l + n = L ∧ x.1 = nI l ∧ Inv x.2) ?_ (n := L) (by omega) ⟨0, by omega, rfl, hI⟩
  rintro n k ⟨l3, σ⟩ ⟨l, hl, rfl, hI⟩ hk
  simp only
  unfold FL_law_b18B
  by_cases hq : nI L - (6 : Int32) < nI l
  · rw [if_pos hq]
    exact wp_some.mpr rfl
  rw [if_neg hq]
  have hl6 : l + 6 ≤ L := by
    have e1 : (nI L - (6 : Int32)).toInt = (L : Int) - 6 := by
      rw [Int32.toInt_sub, nI_toInt (by omega)]
      show Int.bmod ((L : Int) - 6) (2 ^ 32) = _
      rw [Int.bmod_eq_of_le] <;> omega
    have e2 := nI_toInt (n := l) (by omega)
    have e3 : ¬ (nI L - (6 : Int32)).toInt < (nI l).toInt := fun z => hq (Int32.lt_iff_toInt_lt.mpr z)
    rw [e1, e2] at e3
    omega
  have hx : ∀ c : Nat, c < 6 → ixb (nI l + nI c) L = true := fun c hc => by
    rw [nI_add]
    exact ixb_nI (by omega) (by omega)
  have h0 : ixb (nI l) L = true := ixb_nI (by omega) (by omega)
  have h1 := hx 1 (by omega)
  have h2 := hx 2 (by omega)
  have h3 := hx 3 (by omega)
  have h4 := hx 4 (by omega)
  have h5 := hx 5 (by omega)
  have hk6 : ∀ τ, Inv τ → wp (k (nI l + (6 : Int32), τ)) fun r _ => r = 1 := fun τ hi => hk (n - 6) (nI l + (6 : Int32), τ) (by omega) ⟨l + 6, by omega, nI_add l 6, hi⟩
  rw [h0, ck_t]
  refine wp_ite.mpr ⟨fun _ => lc_status c_status hI h1 h2 h3 h4 h5 hk6, fun _ => ?_⟩
  refine wp_ite.mpr ⟨fun _ => lc_top c_top hI h1 h2 h3 h4 h5 hk6, fun _ => ?_⟩
  refine wp_ite.mpr ⟨fun _ => lc_bottom c_bottom hI h1 h2 h3 h4 h5 hk6, fun _ => ?_⟩
  refine wp_ite.mpr ⟨fun _ => lc_tray c_tray hI h1 h2 h3 h4 h5 hk6, fun _ => ?_⟩
  refine wp_ite.mpr ⟨fun _ => lc_write c_write hI h1 h2 h3 h4 h5 hk6, fun _ => ?_⟩
  refine wp_ite.mpr ⟨fun _ => lc_read c_read hI h1 h2 h3 h4 h5 hk6, fun _ => ?_⟩
  refine wp_ite.mpr ⟨fun _ => lc_pour c_pour hI h1 h2 h3 h4 h5 hk6, fun _ => ?_⟩
  refine wp_ite.mpr ⟨fun _ => lc_feed c_feed hI h1 h2 h3 h4 h5 hk6, fun _ => ?_⟩
  refine wp_ite.mpr ⟨fun _ => lc_hedge c_hedge hI h1 h2 h3 h4 h5 hk6, fun _ => ?_⟩
  refine wp_ite.mpr ⟨fun _ => lc_seasons c_seasons hI h1 h2 h3 h4 h5 hk6, fun _ => ?_⟩
  refine wp_ite.mpr ⟨fun _ => lc_fault c_fault hI h1 h2 h3 h4 h5 hk6, fun _ => ?_⟩
  refine wp_ite.mpr ⟨fun _ => lc_many c_many hI h1 h2 h3 h4 h5 hk6, fun _ => ?_⟩
  refine wp_ite.mpr ⟨fun _ => lc_sprig c_sprig hI h1 h2 h3 h4 h5 hk6, fun _ => ?_⟩
  refine wp_ite.mpr ⟨fun _ => lc_heap c_heap hI h1 h2 h3 h4 h5 hk6, fun _ => ?_⟩
  refine wp_ite.mpr ⟨fun _ => lc_bet c_bet hI h1 h2 h3 h4 h5 hk6, fun _ => ?_⟩
  refine wp_ite.mpr ⟨fun _ => lc_copyColours c_copyColours hI h1 h2 h3 h4 h5 hk6, fun _ => ?_⟩
  refine wp_ite.mpr ⟨fun _ => lc_cut c_cut hI h1 h2 h3 h4 h5 hk6, fun _ => ?_⟩
  refine wp_ite.mpr ⟨fun _ => lc_take c_take hI h1 h2 h3 h4 h5 hk6, fun _ => ?_⟩
  refine wp_ite.mpr ⟨fun _ => lc_less c_less hI h1 h2 h3 h4 h5 hk6, fun _ => ?_⟩
  refine wp_ite.mpr ⟨fun _ => lc_spend c_spend hI h1 h2 h3 h4 h5 hk6, fun _ => ?_⟩
  refine wp_ite.mpr ⟨fun _ => lc_grow c_grow hI h1 h2 h3 h4 h5 hk6, fun _ => ?_⟩
  refine wp_ite.mpr ⟨fun _ => lc_paint c_paint hI h1 h2 h3 h4 h5 hk6, fun _ => ?_⟩
  refine wp_ite.mpr ⟨fun _ => lc_pile c_pile hI h1 h2 h3 h4 h5 hk6, fun _ => ?_⟩
  refine wp_ite.mpr ⟨fun _ => lc_offer c_offer hI h1 h2 h3 h4 h5 hk6, fun _ => ?_⟩
  refine wp_ite.mpr ⟨fun _ => lc_worth c_worth hI h1 h2 h3 h4 h5 hk6, fun _ => ?_⟩
  refine wp_ite.mpr ⟨fun _ => lc_worthOf c_worthOf hI h1 h2 h3 h4 h5 hk6, fun _ => ?_⟩
  refine wp_ite.mpr ⟨fun _ => lc_nimber c_nimber hI h1 h2 h3 h4 h5 hk6, fun _ => ?_⟩
  refine wp_ite.mpr ⟨fun _ => lc_nimOf c_nimOf hI h1 h2 h3 h4 h5 hk6, fun _ => ?_⟩
  refine wp_ite.mpr ⟨fun _ => lc_compare c_compare hI h1 h2 h3 h4 h5 hk6, fun _ => ?_⟩
  refine wp_ite.mpr ⟨fun _ => lc_outcome c_outcome hI h1 h2 h3 h4 h5 hk6, fun _ => ?_⟩
  refine wp_ite.mpr ⟨fun _ => lc_winner c_winner hI h1 h2 h3 h4 h5 hk6, fun _ => ?_⟩
  refine wp_ite.mpr ⟨fun _ => lc_moves c_moves hI h1 h2 h3 h4 h5 hk6, fun _ => ?_⟩
  refine wp_ite.mpr ⟨fun _ => lc_wins c_wins hI h1 h2 h3 h4 h5 hk6, fun _ => ?_⟩
  refine wp_ite.mpr ⟨fun _ => lc_bestOf c_bestOf hI h1 h2 h3 h4 h5 hk6, fun _ => ?_⟩
  refine wp_ite.mpr ⟨fun _ => lc_stop c_stop hI h1 h2 h3 h4 h5 hk6, fun _ => ?_⟩
  refine wp_ite.mpr ⟨fun _ => lc_hottest c_hottest hI h1 h2 h3 h4 h5 hk6, fun _ => ?_⟩
  refine wp_ite.mpr ⟨fun _ => lc_heat c_heat hI h1 h2 h3 h4 h5 hk6, fun _ => ?_⟩
  refine wp_ite.mpr ⟨fun _ => lc_simplest c_simplest hI h1 h2 h3 h4 h5 hk6, fun _ => ?_⟩
  refine wp_ite.mpr ⟨fun _ => lc_birthday c_birthday hI h1 h2 h3 h4 h5 hk6, fun _ => ?_⟩
  refine wp_ite.mpr ⟨fun _ => lc_stalkAt c_stalkAt hI h1 h2 h3 h4 h5 hk6, fun _ => ?_⟩
  refine wp_ite.mpr ⟨fun _ => lc_stalkWorth c_stalkWorth hI h1 h2 h3 h4 h5 hk6, fun _ => ?_⟩
  refine wp_ite.mpr ⟨fun _ => lc_colourings c_colourings hI h1 h2 h3 h4 h5 hk6, fun _ => ?_⟩
  refine wp_ite.mpr ⟨fun _ => lc_firstRed c_firstRed hI h1 h2 h3 h4 h5 hk6, fun _ => ?_⟩
  refine wp_ite.mpr ⟨fun _ => lc_oddsBlue c_oddsBlue hI h1 h2 h3 h4 h5 hk6, fun _ => ?_⟩
  refine wp_ite.mpr ⟨fun _ => lc_ask c_ask hI h1 h2 h3 h4 h5 hk6, fun _ => ?_⟩
  refine wp_ite.mpr ⟨fun _ => lc_balance c_balance hI h1 h2 h3 h4 h5 hk6, fun _ => ?_⟩
  refine wp_ite.mpr ⟨fun _ => lc_balanceSet c_balanceSet hI h1 h2 h3 h4 h5 hk6, fun _ => ?_⟩
  refine wp_ite.mpr ⟨fun _ => lc_luck c_luck hI h1 h2 h3 h4 h5 hk6, fun _ => ?_⟩
  refine wp_ite.mpr ⟨fun _ => lc_live c_live hI h1 h2 h3 h4 h5 hk6, fun _ => ?_⟩
  refine wp_ite.mpr ⟨fun _ => lc_lived c_lived hI h1 h2 h3 h4 h5 hk6, fun _ => ?_⟩
  refine wp_ite.mpr ⟨fun _ => lc_mean c_mean hI h1 h2 h3 h4 h5 hk6, fun _ => ?_⟩
  refine wp_ite.mpr ⟨fun _ => lc_mark c_mark hI h1 h2 h3 h4 h5 hk6, fun _ => ?_⟩
  refine wp_ite.mpr ⟨fun _ => lc_back c_back hI h1 h2 h3 h4 h5 hk6, fun _ => ?_⟩
  exact hk6 σ hI

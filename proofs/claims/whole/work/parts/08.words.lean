theorem lw_of {l : List Cond} (h : ∀ w ∈ l, w ∈ tables_1) {w : Cond} (i : Nat) (hi : l[i]? = some w) (hg : goodWord w = true) : w ∈ LW := List.mem_filter.mpr ⟨List.mem_append_right _ (h w (List.mem_of_getElem? hi)), hg⟩
theorem mw1 {w : Cond} (i : Nat) (hi : tables_1_1[i]? = some w) (hg : goodWord w = true) : w ∈ LW := lw_of (fun _ h => List.mem_append_left _ h) i hi hg
theorem mw2 {w : Cond} (i : Nat) (hi : tables_1_2[i]? = some w) (hg : goodWord w = true) : w ∈ LW := lw_of (fun _ h => List.mem_append_right _ (List.mem_append_left _ h)) i hi hg
theorem mw3 {w : Cond} (i : Nat) (hi : tables_1_3[i]? = some w) (hg : goodWord w = true) : w ∈ LW := lw_of (fun _ h => List.mem_append_right _ (List.mem_append_right _ (List.mem_append_left _ h))) i hi hg
theorem mw4 {w : Cond} (i : Nat) (hi : tables_1_4[i]? = some w) (hg : goodWord w = true) : w ∈ LW := lw_of (fun _ h => List.mem_append_right _ (List.mem_append_right _ (List.mem_append_right _ (List.mem_append_left _ h)))) i hi hg
theorem mw5 {w : Cond} (i : Nat) (hi : tables_1_5[i]? = some w) (hg : goodWord w = true) : w ∈ LW := lw_of (fun _ h => List.mem_append_right _ (List.mem_append_right _ (List.mem_append_right _ (List.mem_append_right _ (List.mem_append_left _ h))))) i hi hg
theorem mw6 {w : Cond} (i : Nat) (hi : tables_1_6[i]? = some w) (hg : goodWord w = true) : w ∈ LW := lw_of (fun _ h => List.mem_append_right _ (List.mem_append_right _ (List.mem_append_right _ (List.mem_append_right _ (List.mem_append_right _ (List.mem_append_left _ h)))))) i hi hg
theorem mw7 {w : Cond} (i : Nat) (hi : tables_1_7[i]? = some w) (hg : goodWord w = true) : w ∈ LW := lw_of (fun _ h => List.mem_append_right _ (List.mem_append_right _ (List.mem_append_right _ (List.mem_append_right _ (List.mem_append_right _ (List.mem_append_right _ (List.mem_append_left _ h))))))) i hi hg
theorem mw8 {w : Cond} (i : Nat) (hi : tables_1_8[i]? = some w) (hg : goodWord w = true) : w ∈ LW := lw_of (fun _ h => List.mem_append_right _ (List.mem_append_right _ (List.mem_append_right _ (List.mem_append_right _ (List.mem_append_right _ (List.mem_append_right _ (List.mem_append_right _ (List.mem_append_left _ h)))))))) i hi hg
theorem mw9 {w : Cond} (i : Nat) (hi : tables_1_9[i]? = some w) (hg : goodWord w = true) : w ∈ LW := lw_of (fun _ h => List.mem_append_right _ (List.mem_append_right _ (List.mem_append_right _ (List.mem_append_right _ (List.mem_append_right _ (List.mem_append_right _ (List.mem_append_right _ (List.mem_append_right _ (h))))))))) i hi hg
theorem mwP {w : Cond} (i : Nat) (hi : (k2_sels lw_privs)[i]? = some w) (hg : goodWord w = true) : w ∈ LW := List.mem_filter.mpr ⟨List.mem_append_left _ (List.mem_of_getElem? hi), hg⟩
theorem lyX0_0 : u_lay RX0 TX0 0 ∈ LW := mw1 137 (by decide +kernel) rfl
theorem lyX0_1 : u_lay RX0 TX0 1 ∈ LW := mw1 139 (by decide +kernel) rfl
theorem lyX0_2 : u_lay RX0 TX0 2 ∈ LW := mw1 141 (by decide +kernel) rfl
theorem lyX0_3 : u_lay RX0 TX0 3 ∈ LW := mw1 143 (by decide +kernel) rfl
theorem lyX0_4 : u_lay RX0 TX0 4 ∈ LW := mw1 145 (by decide +kernel) rfl
theorem lyX0_5 : u_lay RX0 TX0 5 ∈ LW := mw1 147 (by decide +kernel) rfl
theorem lyX0_6 : u_lay RX0 TX0 6 ∈ LW := mw1 149 (by decide +kernel) rfl
theorem lyX0_7 : u_lay RX0 TX0 7 ∈ LW := mw1 151 (by decide +kernel) rfl
theorem lyX0_8 : u_lay RX0 TX0 8 ∈ LW := mw1 153 (by decide +kernel) rfl
theorem lyX0_9 : u_lay RX0 TX0 9 ∈ LW := mw1 155 (by decide +kernel) rfl
theorem lyX0_10 : u_lay RX0 TX0 10 ∈ LW := mw1 157 (by decide +kernel) rfl
theorem lyX0_11 : u_lay RX0 TX0 11 ∈ LW := mw1 159 (by decide +kernel) rfl
theorem lyX0_12 : u_lay RX0 TX0 12 ∈ LW := mw1 161 (by decide +kernel) rfl
theorem lyX0_13 : u_lay RX0 TX0 13 ∈ LW := mw1 163 (by decide +kernel) rfl
theorem cf0 : CF 0 RX0 TX0 14 tyX0 := ⟨rfl, rfl, fun w hw => by
    unfold u_ws at hw
    obtain ⟨k, hk, rfl⟩ := List.mem_map.mp hw
    have hk := List.mem_range.mp hk
    match k, hk with
    | 0, _ => exact lyX0_0
    | 1, _ => exact lyX0_1
    | 2, _ => exact lyX0_2
    | 3, _ => exact lyX0_3
    | 4, _ => exact lyX0_4
    | 5, _ => exact lyX0_5
    | 6, _ => exact lyX0_6
    | 7, _ => exact lyX0_7
    | 8, _ => exact lyX0_8
    | 9, _ => exact lyX0_9
    | 10, _ => exact lyX0_10
    | 11, _ => exact lyX0_11
    | 12, _ => exact lyX0_12
    | 13, _ => exact lyX0_13
    | n + 14, h => exact absurd h (by omega), tyX0_ok, nmX0⟩
theorem lyX2_0 : u_lay RX2 TX2 0 ∈ LW := mw2 61 (by decide +kernel) rfl
theorem lyX2_1 : u_lay RX2 TX2 1 ∈ LW := mw2 63 (by decide +kernel) rfl
theorem lyX2_2 : u_lay RX2 TX2 2 ∈ LW := mw2 65 (by decide +kernel) rfl
theorem lyX2_3 : u_lay RX2 TX2 3 ∈ LW := mw2 67 (by decide +kernel) rfl
theorem lyX2_4 : u_lay RX2 TX2 4 ∈ LW := mw2 69 (by decide +kernel) rfl
theorem lyX2_5 : u_lay RX2 TX2 5 ∈ LW := mw2 71 (by decide +kernel) rfl
theorem lyX2_6 : u_lay RX2 TX2 6 ∈ LW := mw2 73 (by decide +kernel) rfl
theorem lyX2_7 : u_lay RX2 TX2 7 ∈ LW := mw2 75 (by decide +kernel) rfl
theorem cf1 : CF 1 RX2 TX2 8 tyX2 := ⟨rfl, rfl, fun w hw => by
    unfold u_ws at hw
    obtain ⟨k, hk, rfl⟩ := List.mem_map.mp hw
    have hk := List.mem_range.mp hk
    match k, hk with
    | 0, _ => exact lyX2_0
    | 1, _ => exact lyX2_1
    | 2, _ => exact lyX2_2
    | 3, _ => exact lyX2_3
    | 4, _ => exact lyX2_4
    | 5, _ => exact lyX2_5
    | 6, _ => exact lyX2_6
    | 7, _ => exact lyX2_7
    | n + 8, h => exact absurd h (by omega), tyX2_ok, nmX2⟩
theorem lyX4_0 : u_lay RX4 TX4 0 ∈ LW := mw1 231 (by decide +kernel) rfl
theorem lyX4_1 : u_lay RX4 TX4 1 ∈ LW := mw1 233 (by decide +kernel) rfl
theorem lyX4_2 : u_lay RX4 TX4 2 ∈ LW := mw1 235 (by decide +kernel) rfl
theorem lyX4_3 : u_lay RX4 TX4 3 ∈ LW := mw1 237 (by decide +kernel) rfl
theorem lyX4_4 : u_lay RX4 TX4 4 ∈ LW := mw1 239 (by decide +kernel) rfl
theorem cf2 : CF 2 RX4 TX4 5 tyX4 := ⟨rfl, rfl, fun w hw => by
    unfold u_ws at hw
    obtain ⟨k, hk, rfl⟩ := List.mem_map.mp hw
    have hk := List.mem_range.mp hk
    match k, hk with
    | 0, _ => exact lyX4_0
    | 1, _ => exact lyX4_1
    | 2, _ => exact lyX4_2
    | 3, _ => exact lyX4_3
    | 4, _ => exact lyX4_4
    | n + 5, h => exact absurd h (by omega), tyX4_ok, nmX4⟩
theorem lyX5_0 : u_lay RX5 TX5 0 ∈ LW := mw1 192 (by decide +kernel) rfl
theorem lyX5_1 : u_lay RX5 TX5 1 ∈ LW := mw1 194 (by decide +kernel) rfl
theorem lyX5_2 : u_lay RX5 TX5 2 ∈ LW := mw1 196 (by decide +kernel) rfl
theorem lyX5_3 : u_lay RX5 TX5 3 ∈ LW := mw1 198 (by decide +kernel) rfl
theorem lyX5_4 : u_lay RX5 TX5 4 ∈ LW := mw1 200 (by decide +kernel) rfl
theorem lyX5_5 : u_lay RX5 TX5 5 ∈ LW := mw1 202 (by decide +kernel) rfl
theorem lyX5_6 : u_lay RX5 TX5 6 ∈ LW := mw1 204 (by decide +kernel) rfl
theorem lyX5_7 : u_lay RX5 TX5 7 ∈ LW := mw1 206 (by decide +kernel) rfl
theorem lyX5_8 : u_lay RX5 TX5 8 ∈ LW := mw1 208 (by decide +kernel) rfl
theorem lyX5_9 : u_lay RX5 TX5 9 ∈ LW := mw1 210 (by decide +kernel) rfl
theorem cf3 : CF 3 RX5 TX5 10 tyX5 := ⟨rfl, rfl, fun w hw => by
    unfold u_ws at hw
    obtain ⟨k, hk, rfl⟩ := List.mem_map.mp hw
    have hk := List.mem_range.mp hk
    match k, hk with
    | 0, _ => exact lyX5_0
    | 1, _ => exact lyX5_1
    | 2, _ => exact lyX5_2
    | 3, _ => exact lyX5_3
    | 4, _ => exact lyX5_4
    | 5, _ => exact lyX5_5
    | 6, _ => exact lyX5_6
    | 7, _ => exact lyX5_7
    | 8, _ => exact lyX5_8
    | 9, _ => exact lyX5_9
    | n + 10, h => exact absurd h (by omega), tyX5_ok, nmX5⟩
theorem lyX7_0 : u_lay RX7 TX7 0 ∈ LW := mw2 32 (by decide +kernel) rfl
theorem lyX7_1 : u_lay RX7 TX7 1 ∈ LW := mw2 34 (by decide +kernel) rfl
theorem lyX7_2 : u_lay RX7 TX7 2 ∈ LW := mw2 36 (by decide +kernel) rfl
theorem lyX7_3 : u_lay RX7 TX7 3 ∈ LW := mw2 38 (by decide +kernel) rfl
theorem cf4 : CF 4 RX7 TX7 4 tyX7 := ⟨rfl, rfl, fun w hw => by
    unfold u_ws at hw
    obtain ⟨k, hk, rfl⟩ := List.mem_map.mp hw
    have hk := List.mem_range.mp hk
    match k, hk with
    | 0, _ => exact lyX7_0
    | 1, _ => exact lyX7_1
    | 2, _ => exact lyX7_2
    | 3, _ => exact lyX7_3
    | n + 4, h => exact absurd h (by omega), tyX7_ok, nmX7⟩
theorem lyX8_0 : u_lay RX8 TX8 0 ∈ LW := mw1 70 (by decide +kernel) rfl
theorem lyX8_1 : u_lay RX8 TX8 1 ∈ LW := mw1 72 (by decide +kernel) rfl
theorem lyX8_2 : u_lay RX8 TX8 2 ∈ LW := mw1 74 (by decide +kernel) rfl
theorem lyX8_3 : u_lay RX8 TX8 3 ∈ LW := mw1 76 (by decide +kernel) rfl
theorem lyX8_4 : u_lay RX8 TX8 4 ∈ LW := mw1 78 (by decide +kernel) rfl
theorem lyX8_5 : u_lay RX8 TX8 5 ∈ LW := mw1 80 (by decide +kernel) rfl
theorem lyX8_6 : u_lay RX8 TX8 6 ∈ LW := mw1 82 (by decide +kernel) rfl
theorem lyX8_7 : u_lay RX8 TX8 7 ∈ LW := mw1 84 (by decide +kernel) rfl
theorem lyX8_8 : u_lay RX8 TX8 8 ∈ LW := mw1 86 (by decide +kernel) rfl
theorem cf5 : CF 5 RX8 TX8 9 tyX8 := ⟨rfl, rfl, fun w hw => by
    unfold u_ws at hw
    obtain ⟨k, hk, rfl⟩ := List.mem_map.mp hw
    have hk := List.mem_range.mp hk
    match k, hk with
    | 0, _ => exact lyX8_0
    | 1, _ => exact lyX8_1
    | 2, _ => exact lyX8_2
    | 3, _ => exact lyX8_3
    | 4, _ => exact lyX8_4
    | 5, _ => exact lyX8_5
    | 6, _ => exact lyX8_6
    | 7, _ => exact lyX8_7
    | 8, _ => exact lyX8_8
    | n + 9, h => exact absurd h (by omega), tyX8_ok, nmX8⟩
theorem lyX9_0 : u_lay RX9 TX9 0 ∈ LW := mw1 41 (by decide +kernel) rfl
theorem lyX9_1 : u_lay RX9 TX9 1 ∈ LW := mw1 43 (by decide +kernel) rfl
theorem lyX9_2 : u_lay RX9 TX9 2 ∈ LW := mw1 45 (by decide +kernel) rfl
theorem cf6 : CF 6 RX9 TX9 3 tyX9 := ⟨rfl, rfl, fun w hw => by
    unfold u_ws at hw
    obtain ⟨k, hk, rfl⟩ := List.mem_map.mp hw
    have hk := List.mem_range.mp hk
    match k, hk with
    | 0, _ => exact lyX9_0
    | 1, _ => exact lyX9_1
    | 2, _ => exact lyX9_2
    | n + 3, h => exact absurd h (by omega), tyX9_ok, nmX9⟩
theorem lyX10_0 : u_lay RX10 TX10 0 ∈ LW := mw2 14 (by decide +kernel) rfl
theorem lyX10_1 : u_lay RX10 TX10 1 ∈ LW := mw2 16 (by decide +kernel) rfl
theorem lyX10_2 : u_lay RX10 TX10 2 ∈ LW := mw2 18 (by decide +kernel) rfl
theorem cf7 : CF 7 RX10 TX10 3 tyX10 := ⟨rfl, rfl, fun w hw => by
    unfold u_ws at hw
    obtain ⟨k, hk, rfl⟩ := List.mem_map.mp hw
    have hk := List.mem_range.mp hk
    match k, hk with
    | 0, _ => exact lyX10_0
    | 1, _ => exact lyX10_1
    | 2, _ => exact lyX10_2
    | n + 3, h => exact absurd h (by omega), tyX10_ok, nmX10⟩
theorem lyX11_0 : u_lay RX11 TX11 0 ∈ LW := mw2 98 (by decide +kernel) rfl
theorem lyX11_1 : u_lay RX11 TX11 1 ∈ LW := mw2 100 (by decide +kernel) rfl
theorem lyX11_2 : u_lay RX11 TX11 2 ∈ LW := mw2 102 (by decide +kernel) rfl
theorem lyX11_3 : u_lay RX11 TX11 3 ∈ LW := mw2 104 (by decide +kernel) rfl
theorem lyX11_4 : u_lay RX11 TX11 4 ∈ LW := mw2 106 (by decide +kernel) rfl
theorem lyX11_5 : u_lay RX11 TX11 5 ∈ LW := mw2 108 (by decide +kernel) rfl
theorem lyX11_6 : u_lay RX11 TX11 6 ∈ LW := mw2 110 (by decide +kernel) rfl
theorem lyX11_7 : u_lay RX11 TX11 7 ∈ LW := mw2 112 (by decide +kernel) rfl
theorem lyX11_8 : u_lay RX11 TX11 8 ∈ LW := mw2 114 (by decide +kernel) rfl
theorem lyX11_9 : u_lay RX11 TX11 9 ∈ LW := mw2 116 (by decide +kernel) rfl
theorem lyX11_10 : u_lay RX11 TX11 10 ∈ LW := mw2 118 (by decide +kernel) rfl
theorem lyX11_11 : u_lay RX11 TX11 11 ∈ LW := mw2 120 (by decide +kernel) rfl
theorem lyX11_12 : u_lay RX11 TX11 12 ∈ LW := mw2 122 (by decide +kernel) rfl
theorem lyX11_13 : u_lay RX11 TX11 13 ∈ LW := mw2 124 (by decide +kernel) rfl
theorem lyX11_14 : u_lay RX11 TX11 14 ∈ LW := mw2 126 (by decide +kernel) rfl
theorem lyX11_15 : u_lay RX11 TX11 15 ∈ LW := mw2 128 (by decide +kernel) rfl
theorem lyX11_16 : u_lay RX11 TX11 16 ∈ LW := mw2 130 (by decide +kernel) rfl
theorem lyX11_17 : u_lay RX11 TX11 17 ∈ LW := mw2 132 (by decide +kernel) rfl
theorem lyX11_18 : u_lay RX11 TX11 18 ∈ LW := mw2 134 (by decide +kernel) rfl
theorem lyX11_19 : u_lay RX11 TX11 19 ∈ LW := mw2 136 (by decide +kernel) rfl
theorem cf8 : CF 8 RX11 TX11 20 tyX11 := ⟨rfl, rfl, fun w hw => by
    unfold u_ws at hw
    obtain ⟨k, hk, rfl⟩ := List.mem_map.mp hw
    have hk := List.mem_range.mp hk
    match k, hk with
    | 0, _ => exact lyX11_0
    | 1, _ => exact lyX11_1
    | 2, _ => exact lyX11_2
    | 3, _ => exact lyX11_3
    | 4, _ => exact lyX11_4
    | 5, _ => exact lyX11_5
    | 6, _ => exact lyX11_6
    | 7, _ => exact lyX11_7
    | 8, _ => exact lyX11_8
    | 9, _ => exact lyX11_9
    | 10, _ => exact lyX11_10
    | 11, _ => exact lyX11_11
    | 12, _ => exact lyX11_12
    | 13, _ => exact lyX11_13
    | 14, _ => exact lyX11_14
    | 15, _ => exact lyX11_15
    | 16, _ => exact lyX11_16
    | 17, _ => exact lyX11_17
    | 18, _ => exact lyX11_18
    | 19, _ => exact lyX11_19
    | n + 20, h => exact absurd h (by omega), tyX11_ok, nmX11⟩
theorem lyX12_0 : u_lay RX12 TX12 0 ∈ LW := mw6 145 (by decide +kernel) rfl
theorem lyX12_1 : u_lay RX12 TX12 1 ∈ LW := mw6 147 (by decide +kernel) rfl
theorem lyX12_2 : u_lay RX12 TX12 2 ∈ LW := mw6 149 (by decide +kernel) rfl
theorem lyX12_3 : u_lay RX12 TX12 3 ∈ LW := mw6 151 (by decide +kernel) rfl
theorem lyX12_4 : u_lay RX12 TX12 4 ∈ LW := mw6 153 (by decide +kernel) rfl
theorem lyX12_5 : u_lay RX12 TX12 5 ∈ LW := mw6 155 (by decide +kernel) rfl
theorem lyX12_6 : u_lay RX12 TX12 6 ∈ LW := mw6 157 (by decide +kernel) rfl
theorem lyX12_7 : u_lay RX12 TX12 7 ∈ LW := mw6 159 (by decide +kernel) rfl
theorem lyX12_8 : u_lay RX12 TX12 8 ∈ LW := mw6 161 (by decide +kernel) rfl
theorem lyX12_9 : u_lay RX12 TX12 9 ∈ LW := mw6 163 (by decide +kernel) rfl
theorem lyX12_10 : u_lay RX12 TX12 10 ∈ LW := mw6 165 (by decide +kernel) rfl
theorem lyX12_11 : u_lay RX12 TX12 11 ∈ LW := mw6 167 (by decide +kernel) rfl
theorem lyX12_12 : u_lay RX12 TX12 12 ∈ LW := mw6 169 (by decide +kernel) rfl
theorem lyX12_13 : u_lay RX12 TX12 13 ∈ LW := mw6 171 (by decide +kernel) rfl
theorem lyX12_14 : u_lay RX12 TX12 14 ∈ LW := mw6 173 (by decide +kernel) rfl
theorem lyX12_15 : u_lay RX12 TX12 15 ∈ LW := mw6 175 (by decide +kernel) rfl
theorem lyX12_16 : u_lay RX12 TX12 16 ∈ LW := mw6 177 (by decide +kernel) rfl
theorem lyX12_17 : u_lay RX12 TX12 17 ∈ LW := mw6 179 (by decide +kernel) rfl
theorem lyX12_18 : u_lay RX12 TX12 18 ∈ LW := mw6 181 (by decide +kernel) rfl
theorem lyX12_19 : u_lay RX12 TX12 19 ∈ LW := mw6 183 (by decide +kernel) rfl
theorem lyX12_20 : u_lay RX12 TX12 20 ∈ LW := mw6 185 (by decide +kernel) rfl
theorem lyX12_21 : u_lay RX12 TX12 21 ∈ LW := mw6 187 (by decide +kernel) rfl
theorem lyX12_22 : u_lay RX12 TX12 22 ∈ LW := mw6 189 (by decide +kernel) rfl
theorem lyX12_23 : u_lay RX12 TX12 23 ∈ LW := mw6 191 (by decide +kernel) rfl
theorem lyX12_24 : u_lay RX12 TX12 24 ∈ LW := mw6 193 (by decide +kernel) rfl
theorem lyX12_25 : u_lay RX12 TX12 25 ∈ LW := mw6 195 (by decide +kernel) rfl
theorem lyX12_26 : u_lay RX12 TX12 26 ∈ LW := mw6 197 (by decide +kernel) rfl
theorem lyX12_27 : u_lay RX12 TX12 27 ∈ LW := mw6 199 (by decide +kernel) rfl
theorem lyX12_28 : u_lay RX12 TX12 28 ∈ LW := mw6 201 (by decide +kernel) rfl
theorem lyX12_29 : u_lay RX12 TX12 29 ∈ LW := mw6 203 (by decide +kernel) rfl
theorem lyX12_30 : u_lay RX12 TX12 30 ∈ LW := mw6 205 (by decide +kernel) rfl
theorem lyX12_31 : u_lay RX12 TX12 31 ∈ LW := mw6 207 (by decide +kernel) rfl
theorem lyX12_32 : u_lay RX12 TX12 32 ∈ LW := mw6 209 (by decide +kernel) rfl
theorem lyX12_33 : u_lay RX12 TX12 33 ∈ LW := mw6 211 (by decide +kernel) rfl
theorem lyX12_34 : u_lay RX12 TX12 34 ∈ LW := mw6 213 (by decide +kernel) rfl
theorem lyX12_35 : u_lay RX12 TX12 35 ∈ LW := mw6 215 (by decide +kernel) rfl
theorem lyX12_36 : u_lay RX12 TX12 36 ∈ LW := mw6 217 (by decide +kernel) rfl
theorem lyX12_37 : u_lay RX12 TX12 37 ∈ LW := mw6 219 (by decide +kernel) rfl
theorem lyX12_38 : u_lay RX12 TX12 38 ∈ LW := mw6 221 (by decide +kernel) rfl
theorem lyX12_39 : u_lay RX12 TX12 39 ∈ LW := mw6 223 (by decide +kernel) rfl
theorem lyX12_40 : u_lay RX12 TX12 40 ∈ LW := mw6 225 (by decide +kernel) rfl
theorem lyX12_41 : u_lay RX12 TX12 41 ∈ LW := mw6 227 (by decide +kernel) rfl
theorem lyX12_42 : u_lay RX12 TX12 42 ∈ LW := mw6 229 (by decide +kernel) rfl
theorem lyX12_43 : u_lay RX12 TX12 43 ∈ LW := mw6 231 (by decide +kernel) rfl
theorem lyX12_44 : u_lay RX12 TX12 44 ∈ LW := mw6 233 (by decide +kernel) rfl
theorem lyX12_45 : u_lay RX12 TX12 45 ∈ LW := mw6 235 (by decide +kernel) rfl
theorem cf9 : CF 9 RX12 TX12 46 tyX12 := ⟨rfl, rfl, fun w hw => by
    unfold u_ws at hw
    obtain ⟨k, hk, rfl⟩ := List.mem_map.mp hw
    have hk := List.mem_range.mp hk
    match k, hk with
    | 0, _ => exact lyX12_0
    | 1, _ => exact lyX12_1
    | 2, _ => exact lyX12_2
    | 3, _ => exact lyX12_3
    | 4, _ => exact lyX12_4
    | 5, _ => exact lyX12_5
    | 6, _ => exact lyX12_6
    | 7, _ => exact lyX12_7
    | 8, _ => exact lyX12_8
    | 9, _ => exact lyX12_9
    | 10, _ => exact lyX12_10
    | 11, _ => exact lyX12_11
    | 12, _ => exact lyX12_12
    | 13, _ => exact lyX12_13
    | 14, _ => exact lyX12_14
    | 15, _ => exact lyX12_15
    | 16, _ => exact lyX12_16
    | 17, _ => exact lyX12_17
    | 18, _ => exact lyX12_18
    | 19, _ => exact lyX12_19
    | 20, _ => exact lyX12_20
    | 21, _ => exact lyX12_21
    | 22, _ => exact lyX12_22
    | 23, _ => exact lyX12_23
    | 24, _ => exact lyX12_24
    | 25, _ => exact lyX12_25
    | 26, _ => exact lyX12_26
    | 27, _ => exact lyX12_27
    | 28, _ => exact lyX12_28
    | 29, _ => exact lyX12_29
    | 30, _ => exact lyX12_30
    | 31, _ => exact lyX12_31
    | 32, _ => exact lyX12_32
    | 33, _ => exact lyX12_33
    | 34, _ => exact lyX12_34
    | 35, _ => exact lyX12_35
    | 36, _ => exact lyX12_36
    | 37, _ => exact lyX12_37
    | 38, _ => exact lyX12_38
    | 39, _ => exact lyX12_39
    | 40, _ => exact lyX12_40
    | 41, _ => exact lyX12_41
    | 42, _ => exact lyX12_42
    | 43, _ => exact lyX12_43
    | 44, _ => exact lyX12_44
    | 45, _ => exact lyX12_45
    | n + 46, h => exact absurd h (by omega), tyX12_ok, nmX12⟩
theorem faX11_12 : FA RX11 12 8 0 3 := ⟨_, _, _, _, cf8, by decide, rfl, mw2 78 (by decide +kernel) rfl⟩
theorem faX11_19 : FA RX11 19 8 1 11 := ⟨_, _, _, _, cf8, by decide, rfl, mw2 79 (by decide +kernel) rfl⟩
theorem faX11_26 : FA RX11 26 8 2 13 := ⟨_, _, _, _, cf8, by decide, rfl, mw2 80 (by decide +kernel) rfl⟩
theorem faX11_30 : FA RX11 30 8 3 21 := ⟨_, _, _, _, cf8, by decide, rfl, mw2 81 (by decide +kernel) rfl⟩
theorem faX11_36 : FA RX11 36 8 4 53 := ⟨_, _, _, _, cf8, by decide, rfl, mw2 82 (by decide +kernel) rfl⟩
theorem faX11_40 : FA RX11 40 8 5 60 := ⟨_, _, _, _, cf8, by decide, rfl, mw2 83 (by decide +kernel) rfl⟩
theorem faX11_43 : FA RX11 43 8 6 88 := ⟨_, _, _, _, cf8, by decide, rfl, mw2 84 (by decide +kernel) rfl⟩
theorem faX11_47 : FA RX11 47 8 7 89 := ⟨_, _, _, _, cf8, by decide, rfl, mw2 85 (by decide +kernel) rfl⟩
theorem faX11_54 : FA RX11 54 8 8 90 := ⟨_, _, _, _, cf8, by decide, rfl, mw2 86 (by decide +kernel) rfl⟩
theorem faX11_61 : FA RX11 61 8 9 91 := ⟨_, _, _, _, cf8, by decide, rfl, mw2 87 (by decide +kernel) rfl⟩
theorem faX11_68 : FA RX11 68 8 10 93 := ⟨_, _, _, _, cf8, by decide, rfl, mw2 88 (by decide +kernel) rfl⟩
theorem faX11_75 : FA RX11 75 8 11 100 := ⟨_, _, _, _, cf8, by decide, rfl, mw2 89 (by decide +kernel) rfl⟩
theorem faX11_79 : FA RX11 79 8 12 102 := ⟨_, _, _, _, cf8, by decide, rfl, mw2 90 (by decide +kernel) rfl⟩
theorem faX11_82 : FA RX11 82 8 13 0 := ⟨_, _, _, _, cf8, by decide, rfl, mw2 91 (by decide +kernel) rfl⟩
theorem faX11_86 : FA RX11 86 8 14 0 := ⟨_, _, _, _, cf8, by decide, rfl, mw2 92 (by decide +kernel) rfl⟩
theorem faX11_90 : FA RX11 90 8 15 0 := ⟨_, _, _, _, cf8, by decide, rfl, mw2 93 (by decide +kernel) rfl⟩
theorem faX11_93 : FA RX11 93 8 16 0 := ⟨_, _, _, _, cf8, by decide, rfl, mw2 94 (by decide +kernel) rfl⟩
theorem faX11_96 : FA RX11 96 8 17 0 := ⟨_, _, _, _, cf8, by decide, rfl, mw2 95 (by decide +kernel) rfl⟩
theorem faX11_99 : FA RX11 99 8 18 1 := ⟨_, _, _, _, cf8, by decide, rfl, mw2 96 (by decide +kernel) rfl⟩
theorem faX11_103 : FA RX11 103 8 19 1 := ⟨_, _, _, _, cf8, by decide, rfl, mw2 97 (by decide +kernel) rfl⟩
theorem faX11_161 : FA RX11 161 5 1 0 := ⟨_, _, _, _, cf5, by decide, rfl, mw1 58 (by decide +kernel) rfl⟩
theorem faX11_183 : FA RX11 183 0 5 0 := ⟨_, _, _, _, cf0, by decide, rfl, mw1 112 (by decide +kernel) rfl⟩
theorem faX11_197 : FA RX11 197 3 1 0 := ⟨_, _, _, _, cf3, by decide, rfl, mw1 176 (by decide +kernel) rfl⟩
theorem faX11_200 : FA RX11 200 0 7 0 := ⟨_, _, _, _, cf0, by decide, rfl, mw1 121 (by decide +kernel) rfl⟩
theorem faX11_203 : FA RX11 203 0 8 0 := ⟨_, _, _, _, cf0, by decide, rfl, mw1 125 (by decide +kernel) rfl⟩
theorem faX11_206 : FA RX11 206 0 6 0 := ⟨_, _, _, _, cf0, by decide, rfl, mw1 118 (by decide +kernel) rfl⟩
theorem faX11_209 : FA RX11 209 0 9 0 := ⟨_, _, _, _, cf0, by decide, rfl, mw1 129 (by decide +kernel) rfl⟩
theorem faX11_212 : FA RX11 212 0 11 0 := ⟨_, _, _, _, cf0, by decide, rfl, mw1 134 (by decide +kernel) rfl⟩
theorem faX11_215 : FA RX11 215 0 10 0 := ⟨_, _, _, _, cf0, by decide, rfl, mw1 132 (by decide +kernel) rfl⟩
theorem faX11_224 : FA RX11 224 0 0 3 := ⟨_, _, _, _, cf0, by decide, rfl, mw1 98 (by decide +kernel) rfl⟩
theorem faX11_228 : FA RX11 228 0 1 4 := ⟨_, _, _, _, cf0, by decide, rfl, mw1 100 (by decide +kernel) rfl⟩
theorem faX11_245 : FA RX11 245 0 2 5 := ⟨_, _, _, _, cf0, by decide, rfl, mw1 104 (by decide +kernel) rfl⟩
theorem faX11_337 : FA RX11 337 2 0 0 := ⟨_, _, _, _, cf2, by decide, rfl, mw1 222 (by decide +kernel) rfl⟩
theorem faX11_340 : FA RX11 340 2 1 0 := ⟨_, _, _, _, cf2, by decide, rfl, mw1 224 (by decide +kernel) rfl⟩
theorem faX11_343 : FA RX11 343 2 2 0 := ⟨_, _, _, _, cf2, by decide, rfl, mw1 226 (by decide +kernel) rfl⟩
theorem faX11_346 : FA RX11 346 2 3 0 := ⟨_, _, _, _, cf2, by decide, rfl, mw1 228 (by decide +kernel) rfl⟩
theorem faX11_349 : FA RX11 349 2 4 0 := ⟨_, _, _, _, cf2, by decide, rfl, mw1 230 (by decide +kernel) rfl⟩
theorem faX11_392 : FA RX11 392 7 0 0 := ⟨_, _, _, _, cf7, by decide, rfl, mw2 9 (by decide +kernel) rfl⟩
theorem faX11_393 : FA RX11 393 7 1 0 := ⟨_, _, _, _, cf7, by decide, rfl, mw2 11 (by decide +kernel) rfl⟩
theorem faX11_399 : FA RX11 399 7 2 3 := ⟨_, _, _, _, cf7, by decide, rfl, mw2 13 (by decide +kernel) rfl⟩
theorem faX11_419 : FA RX11 419 3 0 0 := ⟨_, _, _, _, cf3, by decide, rfl, mw1 173 (by decide +kernel) rfl⟩
theorem faX11_426 : FA RX11 426 1 0 0 := ⟨_, _, _, _, cf1, by decide, rfl, mw2 48 (by decide +kernel) rfl⟩
theorem faX11_427 : FA RX11 427 1 1 0 := ⟨_, _, _, _, cf1, by decide, rfl, mw2 50 (by decide +kernel) rfl⟩
theorem faX11_430 : FA RX11 430 1 2 0 := ⟨_, _, _, _, cf1, by decide, rfl, mw2 52 (by decide +kernel) rfl⟩
theorem faX11_431 : FA RX11 431 1 3 0 := ⟨_, _, _, _, cf1, by decide, rfl, mw2 54 (by decide +kernel) rfl⟩
theorem faX11_434 : FA RX11 434 1 4 0 := ⟨_, _, _, _, cf1, by decide, rfl, mw2 56 (by decide +kernel) rfl⟩
theorem faX11_437 : FA RX11 437 1 5 0 := ⟨_, _, _, _, cf1, by decide, rfl, mw2 58 (by decide +kernel) rfl⟩
theorem faX11_451 : FA RX11 451 5 2 0 := ⟨_, _, _, _, cf5, by decide, rfl, mw1 62 (by decide +kernel) rfl⟩
theorem faX11_454 : FA RX11 454 5 3 0 := ⟨_, _, _, _, cf5, by decide, rfl, mw1 64 (by decide +kernel) rfl⟩
theorem faX0_9 : FA RX0 9 0 0 3 := ⟨_, _, _, _, cf0, by decide, rfl, mw1 96 (by decide +kernel) rfl⟩
theorem faX0_15 : FA RX0 15 0 1 4 := ⟨_, _, _, _, cf0, by decide, rfl, mw1 99 (by decide +kernel) rfl⟩
theorem faX0_18 : FA RX0 18 0 2 5 := ⟨_, _, _, _, cf0, by decide, rfl, mw1 101 (by decide +kernel) rfl⟩
theorem faX0_21 : FA RX0 21 0 3 6 := ⟨_, _, _, _, cf0, by decide, rfl, mw1 105 (by decide +kernel) rfl⟩
theorem faX0_24 : FA RX0 24 0 4 7 := ⟨_, _, _, _, cf0, by decide, rfl, mw1 106 (by decide +kernel) rfl⟩
theorem faX0_27 : FA RX0 27 0 5 0 := ⟨_, _, _, _, cf0, by decide, rfl, mw1 107 (by decide +kernel) rfl⟩
theorem faX0_31 : FA RX0 31 0 6 0 := ⟨_, _, _, _, cf0, by decide, rfl, mw1 113 (by decide +kernel) rfl⟩
theorem faX0_34 : FA RX0 34 0 7 0 := ⟨_, _, _, _, cf0, by decide, rfl, mw1 119 (by decide +kernel) rfl⟩
theorem faX0_37 : FA RX0 37 0 8 0 := ⟨_, _, _, _, cf0, by decide, rfl, mw1 122 (by decide +kernel) rfl⟩
theorem faX0_40 : FA RX0 40 0 9 0 := ⟨_, _, _, _, cf0, by decide, rfl, mw1 126 (by decide +kernel) rfl⟩
theorem faX0_43 : FA RX0 43 0 10 0 := ⟨_, _, _, _, cf0, by decide, rfl, mw1 130 (by decide +kernel) rfl⟩
theorem faX0_46 : FA RX0 46 0 11 0 := ⟨_, _, _, _, cf0, by decide, rfl, mw1 133 (by decide +kernel) rfl⟩
theorem faX0_49 : FA RX0 49 0 12 8 := ⟨_, _, _, _, cf0, by decide, rfl, mw1 135 (by decide +kernel) rfl⟩
theorem faX0_53 : FA RX0 53 0 13 9 := ⟨_, _, _, _, cf0, by decide, rfl, mw1 136 (by decide +kernel) rfl⟩
theorem faX1_46 : FA RX1 46 0 5 0 := ⟨_, _, _, _, cf0, by decide, rfl, mw1 108 (by decide +kernel) rfl⟩
theorem faX1_66 : FA RX1 66 5 2 0 := ⟨_, _, _, _, cf5, by decide, rfl, mw1 61 (by decide +kernel) rfl⟩
theorem faX1_88 : FA RX1 88 0 7 0 := ⟨_, _, _, _, cf0, by decide, rfl, mw1 120 (by decide +kernel) rfl⟩
theorem faX1_94 : FA RX1 94 0 8 0 := ⟨_, _, _, _, cf0, by decide, rfl, mw1 124 (by decide +kernel) rfl⟩
theorem faX2_9 : FA RX2 9 1 0 0 := ⟨_, _, _, _, cf1, by decide, rfl, mw2 47 (by decide +kernel) rfl⟩
theorem faX2_15 : FA RX2 15 1 1 0 := ⟨_, _, _, _, cf1, by decide, rfl, mw2 49 (by decide +kernel) rfl⟩
theorem faX2_18 : FA RX2 18 1 2 0 := ⟨_, _, _, _, cf1, by decide, rfl, mw2 51 (by decide +kernel) rfl⟩
theorem faX2_21 : FA RX2 21 1 3 0 := ⟨_, _, _, _, cf1, by decide, rfl, mw2 53 (by decide +kernel) rfl⟩
theorem faX2_24 : FA RX2 24 1 4 0 := ⟨_, _, _, _, cf1, by decide, rfl, mw2 55 (by decide +kernel) rfl⟩
theorem faX2_27 : FA RX2 27 1 5 0 := ⟨_, _, _, _, cf1, by decide, rfl, mw2 57 (by decide +kernel) rfl⟩
theorem faX2_31 : FA RX2 31 1 6 0 := ⟨_, _, _, _, cf1, by decide, rfl, mw2 59 (by decide +kernel) rfl⟩
theorem faX2_36 : FA RX2 36 1 7 3 := ⟨_, _, _, _, cf1, by decide, rfl, mw2 60 (by decide +kernel) rfl⟩
theorem faX2_44 : FA RX2 44 3 3 3 := ⟨_, _, _, _, cf3, by decide, rfl, mw1 180 (by decide +kernel) rfl⟩
theorem faX2_55 : FA RX2 55 3 7 7 := ⟨_, _, _, _, cf3, by decide, rfl, mw1 188 (by decide +kernel) rfl⟩
theorem faX2_58 : FA RX2 58 3 4 4 := ⟨_, _, _, _, cf3, by decide, rfl, mw1 182 (by decide +kernel) rfl⟩
theorem faX2_61 : FA RX2 61 3 5 5 := ⟨_, _, _, _, cf3, by decide, rfl, mw1 184 (by decide +kernel) rfl⟩
theorem faX2_81 : FA RX2 81 3 6 6 := ⟨_, _, _, _, cf3, by decide, rfl, mw1 186 (by decide +kernel) rfl⟩
theorem faX2_88 : FA RX2 88 3 2 0 := ⟨_, _, _, _, cf3, by decide, rfl, mw1 178 (by decide +kernel) rfl⟩
theorem faX2_120 : FA RX2 120 0 5 0 := ⟨_, _, _, _, cf0, by decide, rfl, mw1 111 (by decide +kernel) rfl⟩
theorem faX2_130 : FA RX2 130 0 6 0 := ⟨_, _, _, _, cf0, by decide, rfl, mw1 117 (by decide +kernel) rfl⟩
theorem faX4_9 : FA RX4 9 2 0 0 := ⟨_, _, _, _, cf2, by decide, rfl, mw1 221 (by decide +kernel) rfl⟩
theorem faX4_15 : FA RX4 15 2 1 0 := ⟨_, _, _, _, cf2, by decide, rfl, mw1 223 (by decide +kernel) rfl⟩
theorem faX4_18 : FA RX4 18 2 2 0 := ⟨_, _, _, _, cf2, by decide, rfl, mw1 225 (by decide +kernel) rfl⟩
theorem faX4_21 : FA RX4 21 2 3 0 := ⟨_, _, _, _, cf2, by decide, rfl, mw1 227 (by decide +kernel) rfl⟩
theorem faX4_24 : FA RX4 24 2 4 0 := ⟨_, _, _, _, cf2, by decide, rfl, mw1 229 (by decide +kernel) rfl⟩
theorem faX4_27 : FA RX4 27 0 6 0 := ⟨_, _, _, _, cf0, by decide, rfl, mw1 114 (by decide +kernel) rfl⟩
theorem faX4_40 : FA RX4 40 0 9 0 := ⟨_, _, _, _, cf0, by decide, rfl, mw1 127 (by decide +kernel) rfl⟩
theorem faX4_67 : FA RX4 67 0 8 0 := ⟨_, _, _, _, cf0, by decide, rfl, mw1 123 (by decide +kernel) rfl⟩
theorem faX4_100 : FA RX4 100 0 5 0 := ⟨_, _, _, _, cf0, by decide, rfl, mw1 110 (by decide +kernel) rfl⟩
theorem faX4_116 : FA RX4 116 0 2 5 := ⟨_, _, _, _, cf0, by decide, rfl, mw1 103 (by decide +kernel) rfl⟩
theorem faX5_11 : FA RX5 11 3 0 0 := ⟨_, _, _, _, cf3, by decide, rfl, mw1 172 (by decide +kernel) rfl⟩
theorem faX5_15 : FA RX5 15 3 1 0 := ⟨_, _, _, _, cf3, by decide, rfl, mw1 174 (by decide +kernel) rfl⟩
theorem faX5_19 : FA RX5 19 3 2 0 := ⟨_, _, _, _, cf3, by decide, rfl, mw1 177 (by decide +kernel) rfl⟩
theorem faX5_22 : FA RX5 22 3 3 3 := ⟨_, _, _, _, cf3, by decide, rfl, mw1 179 (by decide +kernel) rfl⟩
theorem faX5_26 : FA RX5 26 3 4 4 := ⟨_, _, _, _, cf3, by decide, rfl, mw1 181 (by decide +kernel) rfl⟩
theorem faX5_29 : FA RX5 29 3 5 5 := ⟨_, _, _, _, cf3, by decide, rfl, mw1 183 (by decide +kernel) rfl⟩
theorem faX5_32 : FA RX5 32 3 6 6 := ⟨_, _, _, _, cf3, by decide, rfl, mw1 185 (by decide +kernel) rfl⟩
theorem faX5_35 : FA RX5 35 3 7 7 := ⟨_, _, _, _, cf3, by decide, rfl, mw1 187 (by decide +kernel) rfl⟩
theorem faX5_38 : FA RX5 38 3 8 0 := ⟨_, _, _, _, cf3, by decide, rfl, mw1 189 (by decide +kernel) rfl⟩
theorem faX5_41 : FA RX5 41 3 9 8 := ⟨_, _, _, _, cf3, by decide, rfl, mw1 191 (by decide +kernel) rfl⟩
theorem faX6_35 : FA RX6 35 3 8 0 := ⟨_, _, _, _, cf3, by decide, rfl, mw1 190 (by decide +kernel) rfl⟩
theorem faX6_49 : FA RX6 49 5 2 0 := ⟨_, _, _, _, cf5, by decide, rfl, mw1 60 (by decide +kernel) rfl⟩
theorem faX6_59 : FA RX6 59 3 1 0 := ⟨_, _, _, _, cf3, by decide, rfl, mw1 175 (by decide +kernel) rfl⟩
theorem faX7_9 : FA RX7 9 4 0 3 := ⟨_, _, _, _, cf4, by decide, rfl, mw2 28 (by decide +kernel) rfl⟩
theorem faX7_15 : FA RX7 15 4 1 4 := ⟨_, _, _, _, cf4, by decide, rfl, mw2 29 (by decide +kernel) rfl⟩
theorem faX7_18 : FA RX7 18 4 2 5 := ⟨_, _, _, _, cf4, by decide, rfl, mw2 30 (by decide +kernel) rfl⟩
theorem faX7_23 : FA RX7 23 4 3 6 := ⟨_, _, _, _, cf4, by decide, rfl, mw2 31 (by decide +kernel) rfl⟩
theorem faX7_36 : FA RX7 36 0 5 0 := ⟨_, _, _, _, cf0, by decide, rfl, mw1 109 (by decide +kernel) rfl⟩
theorem faX7_40 : FA RX7 40 0 6 0 := ⟨_, _, _, _, cf0, by decide, rfl, mw1 115 (by decide +kernel) rfl⟩
theorem faX7_70 : FA RX7 70 0 10 0 := ⟨_, _, _, _, cf0, by decide, rfl, mw1 131 (by decide +kernel) rfl⟩
theorem faX7_73 : FA RX7 73 0 9 0 := ⟨_, _, _, _, cf0, by decide, rfl, mw1 128 (by decide +kernel) rfl⟩
theorem faX7_83 : FA RX7 83 0 2 5 := ⟨_, _, _, _, cf0, by decide, rfl, mw1 102 (by decide +kernel) rfl⟩
theorem faX8_9 : FA RX8 9 5 0 3 := ⟨_, _, _, _, cf5, by decide, rfl, mw1 56 (by decide +kernel) rfl⟩
theorem faX8_15 : FA RX8 15 5 1 0 := ⟨_, _, _, _, cf5, by decide, rfl, mw1 57 (by decide +kernel) rfl⟩
theorem faX8_19 : FA RX8 19 5 2 0 := ⟨_, _, _, _, cf5, by decide, rfl, mw1 59 (by decide +kernel) rfl⟩
theorem faX8_22 : FA RX8 22 5 3 0 := ⟨_, _, _, _, cf5, by decide, rfl, mw1 63 (by decide +kernel) rfl⟩
theorem faX8_25 : FA RX8 25 5 4 0 := ⟨_, _, _, _, cf5, by decide, rfl, mw1 65 (by decide +kernel) rfl⟩
theorem faX8_28 : FA RX8 28 5 5 0 := ⟨_, _, _, _, cf5, by decide, rfl, mw1 66 (by decide +kernel) rfl⟩
theorem faX8_31 : FA RX8 31 5 6 0 := ⟨_, _, _, _, cf5, by decide, rfl, mw1 67 (by decide +kernel) rfl⟩
theorem faX8_34 : FA RX8 34 5 7 0 := ⟨_, _, _, _, cf5, by decide, rfl, mw1 68 (by decide +kernel) rfl⟩
theorem faX8_37 : FA RX8 37 5 8 0 := ⟨_, _, _, _, cf5, by decide, rfl, mw1 69 (by decide +kernel) rfl⟩
theorem faX9_13 : FA RX9 13 6 0 3 := ⟨_, _, _, _, cf6, by decide, rfl, mw1 38 (by decide +kernel) rfl⟩
theorem faX9_16 : FA RX9 16 6 1 4 := ⟨_, _, _, _, cf6, by decide, rfl, mw1 39 (by decide +kernel) rfl⟩
theorem faX9_20 : FA RX9 20 6 2 5 := ⟨_, _, _, _, cf6, by decide, rfl, mw1 40 (by decide +kernel) rfl⟩
theorem faX10_9 : FA RX10 9 7 0 0 := ⟨_, _, _, _, cf7, by decide, rfl, mw2 8 (by decide +kernel) rfl⟩
theorem faX10_15 : FA RX10 15 7 1 0 := ⟨_, _, _, _, cf7, by decide, rfl, mw2 10 (by decide +kernel) rfl⟩
theorem faX10_18 : FA RX10 18 7 2 3 := ⟨_, _, _, _, cf7, by decide, rfl, mw2 12 (by decide +kernel) rfl⟩
theorem faX10_43 : FA RX10 43 0 6 0 := ⟨_, _, _, _, cf0, by decide, rfl, mw1 116 (by decide +kernel) rfl⟩
theorem faX10_54 : FA RX10 54 0 0 3 := ⟨_, _, _, _, cf0, by decide, rfl, mw1 97 (by decide +kernel) rfl⟩
theorem faX12_7 : FA RX12 7 9 3 1 := ⟨_, _, _, _, cf9, by decide, rfl, mw6 102 (by decide +kernel) rfl⟩
theorem faX12_13 : FA RX12 13 9 4 3 := ⟨_, _, _, _, cf9, by decide, rfl, mw6 103 (by decide +kernel) rfl⟩
theorem faX12_17 : FA RX12 17 9 5 4 := ⟨_, _, _, _, cf9, by decide, rfl, mw6 104 (by decide +kernel) rfl⟩
theorem faX12_20 : FA RX12 20 9 6 5 := ⟨_, _, _, _, cf9, by decide, rfl, mw6 105 (by decide +kernel) rfl⟩
theorem faX12_24 : FA RX12 24 9 7 6 := ⟨_, _, _, _, cf9, by decide, rfl, mw6 106 (by decide +kernel) rfl⟩
theorem faX12_28 : FA RX12 28 9 10 0 := ⟨_, _, _, _, cf9, by decide, rfl, mw6 109 (by decide +kernel) rfl⟩
theorem faX12_32 : FA RX12 32 9 11 0 := ⟨_, _, _, _, cf9, by decide, rfl, mw6 110 (by decide +kernel) rfl⟩
theorem faX12_35 : FA RX12 35 9 19 7 := ⟨_, _, _, _, cf9, by decide, rfl, mw6 118 (by decide +kernel) rfl⟩
theorem faX12_38 : FA RX12 38 9 20 8 := ⟨_, _, _, _, cf9, by decide, rfl, mw6 119 (by decide +kernel) rfl⟩
theorem faX12_41 : FA RX12 41 9 23 9 := ⟨_, _, _, _, cf9, by decide, rfl, mw6 122 (by decide +kernel) rfl⟩
theorem faX12_44 : FA RX12 44 9 24 10 := ⟨_, _, _, _, cf9, by decide, rfl, mw6 123 (by decide +kernel) rfl⟩
theorem faX12_47 : FA RX12 47 9 35 11 := ⟨_, _, _, _, cf9, by decide, rfl, mw6 134 (by decide +kernel) rfl⟩
theorem faX12_50 : FA RX12 50 9 36 12 := ⟨_, _, _, _, cf9, by decide, rfl, mw6 135 (by decide +kernel) rfl⟩
theorem faX12_53 : FA RX12 53 9 1 0 := ⟨_, _, _, _, cf9, by decide, rfl, mw6 100 (by decide +kernel) rfl⟩
theorem faX12_56 : FA RX12 56 9 0 0 := ⟨_, _, _, _, cf9, by decide, rfl, mw6 99 (by decide +kernel) rfl⟩
theorem faX12_59 : FA RX12 59 9 2 1 := ⟨_, _, _, _, cf9, by decide, rfl, mw6 101 (by decide +kernel) rfl⟩
theorem faX12_96 : FA RX12 96 9 9 0 := ⟨_, _, _, _, cf9, by decide, rfl, mw6 108 (by decide +kernel) rfl⟩
theorem faX12_99 : FA RX12 99 9 16 0 := ⟨_, _, _, _, cf9, by decide, rfl, mw6 115 (by decide +kernel) rfl⟩
theorem faX12_102 : FA RX12 102 9 15 0 := ⟨_, _, _, _, cf9, by decide, rfl, mw6 114 (by decide +kernel) rfl⟩
theorem faX12_108 : FA RX12 108 9 14 0 := ⟨_, _, _, _, cf9, by decide, rfl, mw6 113 (by decide +kernel) rfl⟩
theorem faX12_114 : FA RX12 114 9 18 1 := ⟨_, _, _, _, cf9, by decide, rfl, mw6 117 (by decide +kernel) rfl⟩
theorem faX12_124 : FA RX12 124 9 17 0 := ⟨_, _, _, _, cf9, by decide, rfl, mw6 116 (by decide +kernel) rfl⟩
theorem faX12_138 : FA RX12 138 9 12 0 := ⟨_, _, _, _, cf9, by decide, rfl, mw6 111 (by decide +kernel) rfl⟩
theorem faX12_141 : FA RX12 141 9 13 0 := ⟨_, _, _, _, cf9, by decide, rfl, mw6 112 (by decide +kernel) rfl⟩
theorem faX12_171 : FA RX12 171 9 8 0 := ⟨_, _, _, _, cf9, by decide, rfl, mw6 107 (by decide +kernel) rfl⟩
theorem faX12_251 : FA RX12 251 9 22 0 := ⟨_, _, _, _, cf9, by decide, rfl, mw6 121 (by decide +kernel) rfl⟩
theorem faX12_312 : FA RX12 312 9 25 1 := ⟨_, _, _, _, cf9, by decide, rfl, mw6 124 (by decide +kernel) rfl⟩
theorem faX12_315 : FA RX12 315 9 26 0 := ⟨_, _, _, _, cf9, by decide, rfl, mw6 125 (by decide +kernel) rfl⟩
theorem faX12_365 : FA RX12 365 9 27 1 := ⟨_, _, _, _, cf9, by decide, rfl, mw6 126 (by decide +kernel) rfl⟩
theorem faX12_382 : FA RX12 382 9 28 0 := ⟨_, _, _, _, cf9, by decide, rfl, mw6 127 (by decide +kernel) rfl⟩
theorem faX12_385 : FA RX12 385 9 29 0 := ⟨_, _, _, _, cf9, by decide, rfl, mw6 128 (by decide +kernel) rfl⟩
theorem faX12_388 : FA RX12 388 9 30 0 := ⟨_, _, _, _, cf9, by decide, rfl, mw6 129 (by decide +kernel) rfl⟩
theorem faX12_391 : FA RX12 391 9 31 0 := ⟨_, _, _, _, cf9, by decide, rfl, mw6 130 (by decide +kernel) rfl⟩
theorem faX12_394 : FA RX12 394 9 32 0 := ⟨_, _, _, _, cf9, by decide, rfl, mw6 131 (by decide +kernel) rfl⟩
theorem faX12_426 : FA RX12 426 9 33 0 := ⟨_, _, _, _, cf9, by decide, rfl, mw6 132 (by decide +kernel) rfl⟩
theorem faX12_429 : FA RX12 429 9 34 0 := ⟨_, _, _, _, cf9, by decide, rfl, mw6 133 (by decide +kernel) rfl⟩
theorem faX12_462 : FA RX12 462 9 39 0 := ⟨_, _, _, _, cf9, by decide, rfl, mw6 138 (by decide +kernel) rfl⟩
theorem faX12_466 : FA RX12 466 9 43 0 := ⟨_, _, _, _, cf9, by decide, rfl, mw6 142 (by decide +kernel) rfl⟩
theorem faX12_469 : FA RX12 469 9 44 0 := ⟨_, _, _, _, cf9, by decide, rfl, mw6 143 (by decide +kernel) rfl⟩
theorem faX12_484 : FA RX12 484 9 40 0 := ⟨_, _, _, _, cf9, by decide, rfl, mw6 139 (by decide +kernel) rfl⟩
theorem faX12_487 : FA RX12 487 9 38 0 := ⟨_, _, _, _, cf9, by decide, rfl, mw6 137 (by decide +kernel) rfl⟩
theorem faX12_491 : FA RX12 491 9 45 0 := ⟨_, _, _, _, cf9, by decide, rfl, mw6 144 (by decide +kernel) rfl⟩
theorem faX12_494 : FA RX12 494 9 41 0 := ⟨_, _, _, _, cf9, by decide, rfl, mw6 140 (by decide +kernel) rfl⟩
theorem faX12_509 : FA RX12 509 9 42 0 := ⟨_, _, _, _, cf9, by decide, rfl, mw6 141 (by decide +kernel) rfl⟩
theorem faX12_517 : FA RX12 517 9 37 0 := ⟨_, _, _, _, cf9, by decide, rfl, mw6 136 (by decide +kernel) rfl⟩
theorem faX12_520 : FA RX12 520 9 21 0 := ⟨_, _, _, _, cf9, by decide, rfl, mw6 120 (by decide +kernel) rfl⟩
theorem fp0_5 : FP 0 5 .int := fun _ _ _ _ h => by
  obtain ⟨h1, -, -, h4, -⟩ := h
  cases h1
  have := h4 5 (by decide)
  have e : parseFieldDescriptor (TX0 5).2.2.1 = some FieldType.int := rfl
  rw [e] at this
  exact ⟨(Option.some.inj this).symm, rfl⟩
theorem fp0_6 : FP 0 6 .int := fun _ _ _ _ h => by
  obtain ⟨h1, -, -, h4, -⟩ := h
  cases h1
  have := h4 6 (by decide)
  have e : parseFieldDescriptor (TX0 6).2.2.1 = some FieldType.int := rfl
  rw [e] at this
  exact ⟨(Option.some.inj this).symm, rfl⟩
theorem fp0_7 : FP 0 7 .int := fun _ _ _ _ h => by
  obtain ⟨h1, -, -, h4, -⟩ := h
  cases h1
  have := h4 7 (by decide)
  have e : parseFieldDescriptor (TX0 7).2.2.1 = some FieldType.int := rfl
  rw [e] at this
  exact ⟨(Option.some.inj this).symm, rfl⟩
theorem fp0_8 : FP 0 8 .int := fun _ _ _ _ h => by
  obtain ⟨h1, -, -, h4, -⟩ := h
  cases h1
  have := h4 8 (by decide)
  have e : parseFieldDescriptor (TX0 8).2.2.1 = some FieldType.int := rfl
  rw [e] at this
  exact ⟨(Option.some.inj this).symm, rfl⟩
theorem fp0_9 : FP 0 9 .int := fun _ _ _ _ h => by
  obtain ⟨h1, -, -, h4, -⟩ := h
  cases h1
  have := h4 9 (by decide)
  have e : parseFieldDescriptor (TX0 9).2.2.1 = some FieldType.int := rfl
  rw [e] at this
  exact ⟨(Option.some.inj this).symm, rfl⟩
theorem fp0_10 : FP 0 10 .int := fun _ _ _ _ h => by
  obtain ⟨h1, -, -, h4, -⟩ := h
  cases h1
  have := h4 10 (by decide)
  have e : parseFieldDescriptor (TX0 10).2.2.1 = some FieldType.int := rfl
  rw [e] at this
  exact ⟨(Option.some.inj this).symm, rfl⟩
theorem fp0_11 : FP 0 11 .int := fun _ _ _ _ h => by
  obtain ⟨h1, -, -, h4, -⟩ := h
  cases h1
  have := h4 11 (by decide)
  have e : parseFieldDescriptor (TX0 11).2.2.1 = some FieldType.int := rfl
  rw [e] at this
  exact ⟨(Option.some.inj this).symm, rfl⟩
theorem fp1_0 : FP 1 0 .int := fun _ _ _ _ h => by
  obtain ⟨h1, -, -, h4, -⟩ := h
  cases h1
  have := h4 0 (by decide)
  have e : parseFieldDescriptor (TX2 0).2.2.1 = some FieldType.int := rfl
  rw [e] at this
  exact ⟨(Option.some.inj this).symm, rfl⟩
theorem fp1_1 : FP 1 1 .int := fun _ _ _ _ h => by
  obtain ⟨h1, -, -, h4, -⟩ := h
  cases h1
  have := h4 1 (by decide)
  have e : parseFieldDescriptor (TX2 1).2.2.1 = some FieldType.int := rfl
  rw [e] at this
  exact ⟨(Option.some.inj this).symm, rfl⟩
theorem fp1_2 : FP 1 2 .int := fun _ _ _ _ h => by
  obtain ⟨h1, -, -, h4, -⟩ := h
  cases h1
  have := h4 2 (by decide)
  have e : parseFieldDescriptor (TX2 2).2.2.1 = some FieldType.int := rfl
  rw [e] at this
  exact ⟨(Option.some.inj this).symm, rfl⟩
theorem fp1_3 : FP 1 3 .int := fun _ _ _ _ h => by
  obtain ⟨h1, -, -, h4, -⟩ := h
  cases h1
  have := h4 3 (by decide)
  have e : parseFieldDescriptor (TX2 3).2.2.1 = some FieldType.int := rfl
  rw [e] at this
  exact ⟨(Option.some.inj this).symm, rfl⟩
theorem fp1_4 : FP 1 4 .int := fun _ _ _ _ h => by
  obtain ⟨h1, -, -, h4, -⟩ := h
  cases h1
  have := h4 4 (by decide)
  have e : parseFieldDescriptor (TX2 4).2.2.1 = some FieldType.int := rfl
  rw [e] at this
  exact ⟨(Option.some.inj this).symm, rfl⟩
theorem fp1_5 : FP 1 5 .boolean := fun _ _ _ _ h => by
  obtain ⟨h1, -, -, h4, -⟩ := h
  cases h1
  have := h4 5 (by decide)
  have e : parseFieldDescriptor (TX2 5).2.2.1 = some FieldType.boolean := rfl
  rw [e] at this
  exact ⟨(Option.some.inj this).symm, rfl⟩
theorem fp1_6 : FP 1 6 .int := fun _ _ _ _ h => by
  obtain ⟨h1, -, -, h4, -⟩ := h
  cases h1
  have := h4 6 (by decide)
  have e : parseFieldDescriptor (TX2 6).2.2.1 = some FieldType.int := rfl
  rw [e] at this
  exact ⟨(Option.some.inj this).symm, rfl⟩
theorem fp2_0 : FP 2 0 .int := fun _ _ _ _ h => by
  obtain ⟨h1, -, -, h4, -⟩ := h
  cases h1
  have := h4 0 (by decide)
  have e : parseFieldDescriptor (TX4 0).2.2.1 = some FieldType.int := rfl
  rw [e] at this
  exact ⟨(Option.some.inj this).symm, rfl⟩
theorem fp2_1 : FP 2 1 .int := fun _ _ _ _ h => by
  obtain ⟨h1, -, -, h4, -⟩ := h
  cases h1
  have := h4 1 (by decide)
  have e : parseFieldDescriptor (TX4 1).2.2.1 = some FieldType.int := rfl
  rw [e] at this
  exact ⟨(Option.some.inj this).symm, rfl⟩
theorem fp2_2 : FP 2 2 .int := fun _ _ _ _ h => by
  obtain ⟨h1, -, -, h4, -⟩ := h
  cases h1
  have := h4 2 (by decide)
  have e : parseFieldDescriptor (TX4 2).2.2.1 = some FieldType.int := rfl
  rw [e] at this
  exact ⟨(Option.some.inj this).symm, rfl⟩
theorem fp2_3 : FP 2 3 .int := fun _ _ _ _ h => by
  obtain ⟨h1, -, -, h4, -⟩ := h
  cases h1
  have := h4 3 (by decide)
  have e : parseFieldDescriptor (TX4 3).2.2.1 = some FieldType.int := rfl
  rw [e] at this
  exact ⟨(Option.some.inj this).symm, rfl⟩
theorem fp2_4 : FP 2 4 .int := fun _ _ _ _ h => by
  obtain ⟨h1, -, -, h4, -⟩ := h
  cases h1
  have := h4 4 (by decide)
  have e : parseFieldDescriptor (TX4 4).2.2.1 = some FieldType.int := rfl
  rw [e] at this
  exact ⟨(Option.some.inj this).symm, rfl⟩
theorem fp3_0 : FP 3 0 .boolean := fun _ _ _ _ h => by
  obtain ⟨h1, -, -, h4, -⟩ := h
  cases h1
  have := h4 0 (by decide)
  have e : parseFieldDescriptor (TX5 0).2.2.1 = some FieldType.boolean := rfl
  rw [e] at this
  exact ⟨(Option.some.inj this).symm, rfl⟩
theorem fp3_1 : FP 3 1 .int := fun _ _ _ _ h => by
  obtain ⟨h1, -, -, h4, -⟩ := h
  cases h1
  have := h4 1 (by decide)
  have e : parseFieldDescriptor (TX5 1).2.2.1 = some FieldType.int := rfl
  rw [e] at this
  exact ⟨(Option.some.inj this).symm, rfl⟩
theorem fp3_2 : FP 3 2 .int := fun _ _ _ _ h => by
  obtain ⟨h1, -, -, h4, -⟩ := h
  cases h1
  have := h4 2 (by decide)
  have e : parseFieldDescriptor (TX5 2).2.2.1 = some FieldType.int := rfl
  rw [e] at this
  exact ⟨(Option.some.inj this).symm, rfl⟩
theorem fp3_8 : FP 3 8 .int := fun _ _ _ _ h => by
  obtain ⟨h1, -, -, h4, -⟩ := h
  cases h1
  have := h4 8 (by decide)
  have e : parseFieldDescriptor (TX5 8).2.2.1 = some FieldType.int := rfl
  rw [e] at this
  exact ⟨(Option.some.inj this).symm, rfl⟩
theorem fp5_1 : FP 5 1 .int := fun _ _ _ _ h => by
  obtain ⟨h1, -, -, h4, -⟩ := h
  cases h1
  have := h4 1 (by decide)
  have e : parseFieldDescriptor (TX8 1).2.2.1 = some FieldType.int := rfl
  rw [e] at this
  exact ⟨(Option.some.inj this).symm, rfl⟩
theorem fp5_2 : FP 5 2 .int := fun _ _ _ _ h => by
  obtain ⟨h1, -, -, h4, -⟩ := h
  cases h1
  have := h4 2 (by decide)
  have e : parseFieldDescriptor (TX8 2).2.2.1 = some FieldType.int := rfl
  rw [e] at this
  exact ⟨(Option.some.inj this).symm, rfl⟩
theorem fp5_3 : FP 5 3 .int := fun _ _ _ _ h => by
  obtain ⟨h1, -, -, h4, -⟩ := h
  cases h1
  have := h4 3 (by decide)
  have e : parseFieldDescriptor (TX8 3).2.2.1 = some FieldType.int := rfl
  rw [e] at this
  exact ⟨(Option.some.inj this).symm, rfl⟩
theorem fp5_4 : FP 5 4 .int := fun _ _ _ _ h => by
  obtain ⟨h1, -, -, h4, -⟩ := h
  cases h1
  have := h4 4 (by decide)
  have e : parseFieldDescriptor (TX8 4).2.2.1 = some FieldType.int := rfl
  rw [e] at this
  exact ⟨(Option.some.inj this).symm, rfl⟩
theorem fp5_5 : FP 5 5 .int := fun _ _ _ _ h => by
  obtain ⟨h1, -, -, h4, -⟩ := h
  cases h1
  have := h4 5 (by decide)
  have e : parseFieldDescriptor (TX8 5).2.2.1 = some FieldType.int := rfl
  rw [e] at this
  exact ⟨(Option.some.inj this).symm, rfl⟩
theorem fp5_6 : FP 5 6 .int := fun _ _ _ _ h => by
  obtain ⟨h1, -, -, h4, -⟩ := h
  cases h1
  have := h4 6 (by decide)
  have e : parseFieldDescriptor (TX8 6).2.2.1 = some FieldType.int := rfl
  rw [e] at this
  exact ⟨(Option.some.inj this).symm, rfl⟩
theorem fp5_7 : FP 5 7 .int := fun _ _ _ _ h => by
  obtain ⟨h1, -, -, h4, -⟩ := h
  cases h1
  have := h4 7 (by decide)
  have e : parseFieldDescriptor (TX8 7).2.2.1 = some FieldType.int := rfl
  rw [e] at this
  exact ⟨(Option.some.inj this).symm, rfl⟩
theorem fp5_8 : FP 5 8 .int := fun _ _ _ _ h => by
  obtain ⟨h1, -, -, h4, -⟩ := h
  cases h1
  have := h4 8 (by decide)
  have e : parseFieldDescriptor (TX8 8).2.2.1 = some FieldType.int := rfl
  rw [e] at this
  exact ⟨(Option.some.inj this).symm, rfl⟩
theorem fp7_0 : FP 7 0 .int := fun _ _ _ _ h => by
  obtain ⟨h1, -, -, h4, -⟩ := h
  cases h1
  have := h4 0 (by decide)
  have e : parseFieldDescriptor (TX10 0).2.2.1 = some FieldType.int := rfl
  rw [e] at this
  exact ⟨(Option.some.inj this).symm, rfl⟩
theorem fp7_1 : FP 7 1 .int := fun _ _ _ _ h => by
  obtain ⟨h1, -, -, h4, -⟩ := h
  cases h1
  have := h4 1 (by decide)
  have e : parseFieldDescriptor (TX10 1).2.2.1 = some FieldType.int := rfl
  rw [e] at this
  exact ⟨(Option.some.inj this).symm, rfl⟩
theorem fp8_13 : FP 8 13 .boolean := fun _ _ _ _ h => by
  obtain ⟨h1, -, -, h4, -⟩ := h
  cases h1
  have := h4 13 (by decide)
  have e : parseFieldDescriptor (TX11 13).2.2.1 = some FieldType.boolean := rfl
  rw [e] at this
  exact ⟨(Option.some.inj this).symm, rfl⟩
theorem fp8_14 : FP 8 14 .int := fun _ _ _ _ h => by
  obtain ⟨h1, -, -, h4, -⟩ := h
  cases h1
  have := h4 14 (by decide)
  have e : parseFieldDescriptor (TX11 14).2.2.1 = some FieldType.int := rfl
  rw [e] at this
  exact ⟨(Option.some.inj this).symm, rfl⟩
theorem fp8_15 : FP 8 15 .int := fun _ _ _ _ h => by
  obtain ⟨h1, -, -, h4, -⟩ := h
  cases h1
  have := h4 15 (by decide)
  have e : parseFieldDescriptor (TX11 15).2.2.1 = some FieldType.int := rfl
  rw [e] at this
  exact ⟨(Option.some.inj this).symm, rfl⟩
theorem fp8_16 : FP 8 16 .int := fun _ _ _ _ h => by
  obtain ⟨h1, -, -, h4, -⟩ := h
  cases h1
  have := h4 16 (by decide)
  have e : parseFieldDescriptor (TX11 16).2.2.1 = some FieldType.int := rfl
  rw [e] at this
  exact ⟨(Option.some.inj this).symm, rfl⟩
theorem fp8_17 : FP 8 17 .int := fun _ _ _ _ h => by
  obtain ⟨h1, -, -, h4, -⟩ := h
  cases h1
  have := h4 17 (by decide)
  have e : parseFieldDescriptor (TX11 17).2.2.1 = some FieldType.int := rfl
  rw [e] at this
  exact ⟨(Option.some.inj this).symm, rfl⟩
theorem fp8_18 : FP 8 18 .long := fun _ _ _ _ h => by
  obtain ⟨h1, -, -, h4, -⟩ := h
  cases h1
  have := h4 18 (by decide)
  have e : parseFieldDescriptor (TX11 18).2.2.1 = some FieldType.long := rfl
  rw [e] at this
  exact ⟨(Option.some.inj this).symm, rfl⟩
theorem fp8_19 : FP 8 19 .long := fun _ _ _ _ h => by
  obtain ⟨h1, -, -, h4, -⟩ := h
  cases h1
  have := h4 19 (by decide)
  have e : parseFieldDescriptor (TX11 19).2.2.1 = some FieldType.long := rfl
  rw [e] at this
  exact ⟨(Option.some.inj this).symm, rfl⟩
theorem fp9_0 : FP 9 0 .int := fun _ _ _ _ h => by
  obtain ⟨h1, -, -, h4, -⟩ := h
  cases h1
  have := h4 0 (by decide)
  have e : parseFieldDescriptor (TX12 0).2.2.1 = some FieldType.int := rfl
  rw [e] at this
  exact ⟨(Option.some.inj this).symm, rfl⟩
theorem fp9_1 : FP 9 1 .int := fun _ _ _ _ h => by
  obtain ⟨h1, -, -, h4, -⟩ := h
  cases h1
  have := h4 1 (by decide)
  have e : parseFieldDescriptor (TX12 1).2.2.1 = some FieldType.int := rfl
  rw [e] at this
  exact ⟨(Option.some.inj this).symm, rfl⟩
theorem fp9_2 : FP 9 2 .long := fun _ _ _ _ h => by
  obtain ⟨h1, -, -, h4, -⟩ := h
  cases h1
  have := h4 2 (by decide)
  have e : parseFieldDescriptor (TX12 2).2.2.1 = some FieldType.long := rfl
  rw [e] at this
  exact ⟨(Option.some.inj this).symm, rfl⟩
theorem fp9_3 : FP 9 3 .long := fun _ _ _ _ h => by
  obtain ⟨h1, -, -, h4, -⟩ := h
  cases h1
  have := h4 3 (by decide)
  have e : parseFieldDescriptor (TX12 3).2.2.1 = some FieldType.long := rfl
  rw [e] at this
  exact ⟨(Option.some.inj this).symm, rfl⟩
theorem fp9_8 : FP 9 8 .int := fun _ _ _ _ h => by
  obtain ⟨h1, -, -, h4, -⟩ := h
  cases h1
  have := h4 8 (by decide)
  have e : parseFieldDescriptor (TX12 8).2.2.1 = some FieldType.int := rfl
  rw [e] at this
  exact ⟨(Option.some.inj this).symm, rfl⟩
theorem fp9_9 : FP 9 9 .int := fun _ _ _ _ h => by
  obtain ⟨h1, -, -, h4, -⟩ := h
  cases h1
  have := h4 9 (by decide)
  have e : parseFieldDescriptor (TX12 9).2.2.1 = some FieldType.int := rfl
  rw [e] at this
  exact ⟨(Option.some.inj this).symm, rfl⟩
theorem fp9_10 : FP 9 10 .int := fun _ _ _ _ h => by
  obtain ⟨h1, -, -, h4, -⟩ := h
  cases h1
  have := h4 10 (by decide)
  have e : parseFieldDescriptor (TX12 10).2.2.1 = some FieldType.int := rfl
  rw [e] at this
  exact ⟨(Option.some.inj this).symm, rfl⟩
theorem fp9_11 : FP 9 11 .int := fun _ _ _ _ h => by
  obtain ⟨h1, -, -, h4, -⟩ := h
  cases h1
  have := h4 11 (by decide)
  have e : parseFieldDescriptor (TX12 11).2.2.1 = some FieldType.int := rfl
  rw [e] at this
  exact ⟨(Option.some.inj this).symm, rfl⟩
theorem fp9_12 : FP 9 12 .int := fun _ _ _ _ h => by
  obtain ⟨h1, -, -, h4, -⟩ := h
  cases h1
  have := h4 12 (by decide)
  have e : parseFieldDescriptor (TX12 12).2.2.1 = some FieldType.int := rfl
  rw [e] at this
  exact ⟨(Option.some.inj this).symm, rfl⟩
theorem fp9_13 : FP 9 13 .int := fun _ _ _ _ h => by
  obtain ⟨h1, -, -, h4, -⟩ := h
  cases h1
  have := h4 13 (by decide)
  have e : parseFieldDescriptor (TX12 13).2.2.1 = some FieldType.int := rfl
  rw [e] at this
  exact ⟨(Option.some.inj this).symm, rfl⟩
theorem fp9_14 : FP 9 14 .int := fun _ _ _ _ h => by
  obtain ⟨h1, -, -, h4, -⟩ := h
  cases h1
  have := h4 14 (by decide)
  have e : parseFieldDescriptor (TX12 14).2.2.1 = some FieldType.int := rfl
  rw [e] at this
  exact ⟨(Option.some.inj this).symm, rfl⟩
theorem fp9_15 : FP 9 15 .int := fun _ _ _ _ h => by
  obtain ⟨h1, -, -, h4, -⟩ := h
  cases h1
  have := h4 15 (by decide)
  have e : parseFieldDescriptor (TX12 15).2.2.1 = some FieldType.int := rfl
  rw [e] at this
  exact ⟨(Option.some.inj this).symm, rfl⟩
theorem fp9_16 : FP 9 16 .int := fun _ _ _ _ h => by
  obtain ⟨h1, -, -, h4, -⟩ := h
  cases h1
  have := h4 16 (by decide)
  have e : parseFieldDescriptor (TX12 16).2.2.1 = some FieldType.int := rfl
  rw [e] at this
  exact ⟨(Option.some.inj this).symm, rfl⟩
theorem fp9_17 : FP 9 17 .int := fun _ _ _ _ h => by
  obtain ⟨h1, -, -, h4, -⟩ := h
  cases h1
  have := h4 17 (by decide)
  have e : parseFieldDescriptor (TX12 17).2.2.1 = some FieldType.int := rfl
  rw [e] at this
  exact ⟨(Option.some.inj this).symm, rfl⟩
theorem fp9_18 : FP 9 18 .long := fun _ _ _ _ h => by
  obtain ⟨h1, -, -, h4, -⟩ := h
  cases h1
  have := h4 18 (by decide)
  have e : parseFieldDescriptor (TX12 18).2.2.1 = some FieldType.long := rfl
  rw [e] at this
  exact ⟨(Option.some.inj this).symm, rfl⟩
theorem fp9_21 : FP 9 21 .int := fun _ _ _ _ h => by
  obtain ⟨h1, -, -, h4, -⟩ := h
  cases h1
  have := h4 21 (by decide)
  have e : parseFieldDescriptor (TX12 21).2.2.1 = some FieldType.int := rfl
  rw [e] at this
  exact ⟨(Option.some.inj this).symm, rfl⟩
theorem fp9_22 : FP 9 22 .int := fun _ _ _ _ h => by
  obtain ⟨h1, -, -, h4, -⟩ := h
  cases h1
  have := h4 22 (by decide)
  have e : parseFieldDescriptor (TX12 22).2.2.1 = some FieldType.int := rfl
  rw [e] at this
  exact ⟨(Option.some.inj this).symm, rfl⟩
theorem fp9_25 : FP 9 25 .long := fun _ _ _ _ h => by
  obtain ⟨h1, -, -, h4, -⟩ := h
  cases h1
  have := h4 25 (by decide)
  have e : parseFieldDescriptor (TX12 25).2.2.1 = some FieldType.long := rfl
  rw [e] at this
  exact ⟨(Option.some.inj this).symm, rfl⟩
theorem fp9_26 : FP 9 26 .int := fun _ _ _ _ h => by
  obtain ⟨h1, -, -, h4, -⟩ := h
  cases h1
  have := h4 26 (by decide)
  have e : parseFieldDescriptor (TX12 26).2.2.1 = some FieldType.int := rfl
  rw [e] at this
  exact ⟨(Option.some.inj this).symm, rfl⟩
theorem fp9_27 : FP 9 27 .long := fun _ _ _ _ h => by
  obtain ⟨h1, -, -, h4, -⟩ := h
  cases h1
  have := h4 27 (by decide)
  have e : parseFieldDescriptor (TX12 27).2.2.1 = some FieldType.long := rfl
  rw [e] at this
  exact ⟨(Option.some.inj this).symm, rfl⟩
theorem fp9_28 : FP 9 28 .int := fun _ _ _ _ h => by
  obtain ⟨h1, -, -, h4, -⟩ := h
  cases h1
  have := h4 28 (by decide)
  have e : parseFieldDescriptor (TX12 28).2.2.1 = some FieldType.int := rfl
  rw [e] at this
  exact ⟨(Option.some.inj this).symm, rfl⟩
theorem fp9_29 : FP 9 29 .int := fun _ _ _ _ h => by
  obtain ⟨h1, -, -, h4, -⟩ := h
  cases h1
  have := h4 29 (by decide)
  have e : parseFieldDescriptor (TX12 29).2.2.1 = some FieldType.int := rfl
  rw [e] at this
  exact ⟨(Option.some.inj this).symm, rfl⟩
theorem fp9_30 : FP 9 30 .int := fun _ _ _ _ h => by
  obtain ⟨h1, -, -, h4, -⟩ := h
  cases h1
  have := h4 30 (by decide)
  have e : parseFieldDescriptor (TX12 30).2.2.1 = some FieldType.int := rfl
  rw [e] at this
  exact ⟨(Option.some.inj this).symm, rfl⟩
theorem fp9_31 : FP 9 31 .int := fun _ _ _ _ h => by
  obtain ⟨h1, -, -, h4, -⟩ := h
  cases h1
  have := h4 31 (by decide)
  have e : parseFieldDescriptor (TX12 31).2.2.1 = some FieldType.int := rfl
  rw [e] at this
  exact ⟨(Option.some.inj this).symm, rfl⟩
theorem fp9_32 : FP 9 32 .int := fun _ _ _ _ h => by
  obtain ⟨h1, -, -, h4, -⟩ := h
  cases h1
  have := h4 32 (by decide)
  have e : parseFieldDescriptor (TX12 32).2.2.1 = some FieldType.int := rfl
  rw [e] at this
  exact ⟨(Option.some.inj this).symm, rfl⟩
theorem fp9_33 : FP 9 33 .int := fun _ _ _ _ h => by
  obtain ⟨h1, -, -, h4, -⟩ := h
  cases h1
  have := h4 33 (by decide)
  have e : parseFieldDescriptor (TX12 33).2.2.1 = some FieldType.int := rfl
  rw [e] at this
  exact ⟨(Option.some.inj this).symm, rfl⟩
theorem fp9_34 : FP 9 34 .int := fun _ _ _ _ h => by
  obtain ⟨h1, -, -, h4, -⟩ := h
  cases h1
  have := h4 34 (by decide)
  have e : parseFieldDescriptor (TX12 34).2.2.1 = some FieldType.int := rfl
  rw [e] at this
  exact ⟨(Option.some.inj this).symm, rfl⟩
theorem fp9_37 : FP 9 37 .boolean := fun _ _ _ _ h => by
  obtain ⟨h1, -, -, h4, -⟩ := h
  cases h1
  have := h4 37 (by decide)
  have e : parseFieldDescriptor (TX12 37).2.2.1 = some FieldType.boolean := rfl
  rw [e] at this
  exact ⟨(Option.some.inj this).symm, rfl⟩
theorem fp9_38 : FP 9 38 .boolean := fun _ _ _ _ h => by
  obtain ⟨h1, -, -, h4, -⟩ := h
  cases h1
  have := h4 38 (by decide)
  have e : parseFieldDescriptor (TX12 38).2.2.1 = some FieldType.boolean := rfl
  rw [e] at this
  exact ⟨(Option.some.inj this).symm, rfl⟩
theorem fp9_39 : FP 9 39 .int := fun _ _ _ _ h => by
  obtain ⟨h1, -, -, h4, -⟩ := h
  cases h1
  have := h4 39 (by decide)
  have e : parseFieldDescriptor (TX12 39).2.2.1 = some FieldType.int := rfl
  rw [e] at this
  exact ⟨(Option.some.inj this).symm, rfl⟩
theorem fp9_40 : FP 9 40 .int := fun _ _ _ _ h => by
  obtain ⟨h1, -, -, h4, -⟩ := h
  cases h1
  have := h4 40 (by decide)
  have e : parseFieldDescriptor (TX12 40).2.2.1 = some FieldType.int := rfl
  rw [e] at this
  exact ⟨(Option.some.inj this).symm, rfl⟩
theorem fp9_41 : FP 9 41 .int := fun _ _ _ _ h => by
  obtain ⟨h1, -, -, h4, -⟩ := h
  cases h1
  have := h4 41 (by decide)
  have e : parseFieldDescriptor (TX12 41).2.2.1 = some FieldType.int := rfl
  rw [e] at this
  exact ⟨(Option.some.inj this).symm, rfl⟩
theorem fp9_42 : FP 9 42 .int := fun _ _ _ _ h => by
  obtain ⟨h1, -, -, h4, -⟩ := h
  cases h1
  have := h4 42 (by decide)
  have e : parseFieldDescriptor (TX12 42).2.2.1 = some FieldType.int := rfl
  rw [e] at this
  exact ⟨(Option.some.inj this).symm, rfl⟩
theorem fp9_43 : FP 9 43 .int := fun _ _ _ _ h => by
  obtain ⟨h1, -, -, h4, -⟩ := h
  cases h1
  have := h4 43 (by decide)
  have e : parseFieldDescriptor (TX12 43).2.2.1 = some FieldType.int := rfl
  rw [e] at this
  exact ⟨(Option.some.inj this).symm, rfl⟩
theorem fp9_44 : FP 9 44 .int := fun _ _ _ _ h => by
  obtain ⟨h1, -, -, h4, -⟩ := h
  cases h1
  have := h4 44 (by decide)
  have e : parseFieldDescriptor (TX12 44).2.2.1 = some FieldType.int := rfl
  rw [e] at this
  exact ⟨(Option.some.inj this).symm, rfl⟩
theorem fp9_45 : FP 9 45 .int := fun _ _ _ _ h => by
  obtain ⟨h1, -, -, h4, -⟩ := h
  cases h1
  have := h4 45 (by decide)
  have e : parseFieldDescriptor (TX12 45).2.2.1 = some FieldType.int := rfl
  rw [e] at this
  exact ⟨(Option.some.inj this).symm, rfl⟩
theorem yv0_addBet : YV yX0_addBet cX0_addBet 3 none 2 := ⟨mw3 167 (by decide +kernel) rfl, mw3 168 (by decide +kernel) rfl, mw1 4 (by decide +kernel) rfl, mw3 169 (by decide +kernel) rfl, by decide, by decide, by decide, by decide +kernel⟩
theorem yv0_addHeap : YV yX0_addHeap cX0_addHeap 2 none 1 := ⟨mw3 159 (by decide +kernel) rfl, mw3 160 (by decide +kernel) rfl, mw1 4 (by decide +kernel) rfl, mw3 161 (by decide +kernel) rfl, by decide, by decide, by decide, by decide +kernel⟩
theorem yv0_addSprig : YV yX0_addSprig cX0_addSprig 3 none 2 := ⟨mw3 151 (by decide +kernel) rfl, mw3 152 (by decide +kernel) rfl, mw1 4 (by decide +kernel) rfl, mw3 153 (by decide +kernel) rfl, by decide, by decide, by decide, by decide +kernel⟩
theorem yv0_betFor : YV yX0_betFor cX0_betFor 3 (some .int) 2 := ⟨mw4 89 (by decide +kernel) rfl, mw4 90 (by decide +kernel) rfl, mw1 4 (by decide +kernel) rfl, mw4 91 (by decide +kernel) rfl, by decide, by decide, by decide, by decide +kernel⟩
theorem yv0_branchNim : YV yX0_branchNim cX0_branchNim 2 (some .int) 1 := ⟨mw4 237 (by decide +kernel) rfl, mw4 238 (by decide +kernel) rfl, mw1 4 (by decide +kernel) rfl, mw4 239 (by decide +kernel) rfl, by decide, by decide, by decide, by decide +kernel⟩
theorem yv0_branchSet : YV yX0_branchSet cX0_branchSet 4 (some .int) 1 := ⟨mw4 60 (by decide +kernel) rfl, mw4 61 (by decide +kernel) rfl, mw1 4 (by decide +kernel) rfl, mw4 62 (by decide +kernel) rfl, by decide, by decide, by decide, by decide +kernel⟩
theorem yv0_branchWorth : YV yX0_branchWorth cX0_branchWorth 2 (some .long) 1 := ⟨mw4 223 (by decide +kernel) rfl, mw4 224 (by decide +kernel) rfl, mw1 4 (by decide +kernel) rfl, mw4 225 (by decide +kernel) rfl, by decide, by decide, by decide, by decide +kernel⟩
theorem yv0_clear : YV yX0_clear cX0_clear 1 none 0 := ⟨mw3 41 (by decide +kernel) rfl, mw3 42 (by decide +kernel) rfl, mw1 4 (by decide +kernel) rfl, mw3 43 (by decide +kernel) rfl, by decide, by decide, by decide, by decide +kernel⟩
theorem yv0_fits : YV yX0_fits cX0_fits 3 (some .boolean) 2 := ⟨mw3 131 (by decide +kernel) rfl, mw3 132 (by decide +kernel) rfl, mw1 4 (by decide +kernel) rfl, mw3 133 (by decide +kernel) rfl, by decide, by decide, by decide, by decide +kernel⟩
theorem yv0_gain : YV yX0_gain cX0_gain 3 (some .int) 2 := ⟨mw4 126 (by decide +kernel) rfl, mw4 127 (by decide +kernel) rfl, mw1 4 (by decide +kernel) rfl, mw4 128 (by decide +kernel) rfl, by decide, by decide, by decide, by decide +kernel⟩
theorem yv0_hasBet : YV yX0_hasBet cX0_hasBet 2 (some .boolean) 1 := ⟨mw4 82 (by decide +kernel) rfl, mw4 83 (by decide +kernel) rfl, mw1 4 (by decide +kernel) rfl, mw4 84 (by decide +kernel) rfl, by decide, by decide, by decide, by decide +kernel⟩
theorem yv0_hasHeap : YV yX0_hasHeap cX0_hasHeap 2 (some .boolean) 1 := ⟨mw4 74 (by decide +kernel) rfl, mw4 75 (by decide +kernel) rfl, mw1 4 (by decide +kernel) rfl, mw4 76 (by decide +kernel) rfl, by decide, by decide, by decide, by decide +kernel⟩
theorem yv0_hasSprig : YV yX0_hasSprig cX0_hasSprig 2 (some .boolean) 1 := ⟨mw3 135 (by decide +kernel) rfl, mw3 136 (by decide +kernel) rfl, mw1 4 (by decide +kernel) rfl, mw3 137 (by decide +kernel) rfl, by decide, by decide, by decide, by decide +kernel⟩
theorem yv0_hasWorth : YV yX0_hasWorth cX0_hasWorth 2 (some .boolean) 1 := ⟨mw4 174 (by decide +kernel) rfl, mw4 175 (by decide +kernel) rfl, mw1 4 (by decide +kernel) rfl, mw4 176 (by decide +kernel) rfl, by decide, by decide, by decide, by decide +kernel⟩
theorem yv0_hottestBut : YV yX0_hottestBut cX0_hottestBut 6 (some .int) 1 := ⟨mw5 21 (by decide +kernel) rfl, mw5 22 (by decide +kernel) rfl, mw1 4 (by decide +kernel) rfl, mw5 23 (by decide +kernel) rfl, by decide, by decide, by decide, by decide +kernel⟩
theorem yv0_isStanding : YV yX0_isStanding cX0_isStanding 2 (some .boolean) 1 := ⟨mw4 48 (by decide +kernel) rfl, mw4 49 (by decide +kernel) rfl, mw1 4 (by decide +kernel) rfl, mw4 50 (by decide +kernel) rfl, by decide, by decide, by decide, by decide +kernel⟩
theorem yv0_lessen : YV yX0_lessen cX0_lessen 3 none 2 := ⟨mw4 139 (by decide +kernel) rfl, mw4 140 (by decide +kernel) rfl, mw1 4 (by decide +kernel) rfl, mw4 141 (by decide +kernel) rfl, by decide, by decide, by decide, by decide +kernel⟩
theorem yv0_mayCut : YV yX0_mayCut cX0_mayCut 3 (some .boolean) 2 := ⟨mw4 103 (by decide +kernel) rfl, mw4 104 (by decide +kernel) rfl, mw1 4 (by decide +kernel) rfl, mw4 105 (by decide +kernel) rfl, by decide, by decide, by decide, by decide +kernel⟩
theorem yv0_mayGrow : YV yX0_mayGrow cX0_mayGrow 3 (some .boolean) 2 := ⟨mw4 164 (by decide +kernel) rfl, mw4 165 (by decide +kernel) rfl, mw1 4 (by decide +kernel) rfl, mw4 166 (by decide +kernel) rfl, by decide, by decide, by decide, by decide +kernel⟩
theorem yv0_mayLessen : YV yX0_mayLessen cX0_mayLessen 3 (some .boolean) 2 := ⟨mw4 134 (by decide +kernel) rfl, mw4 135 (by decide +kernel) rfl, mw1 4 (by decide +kernel) rfl, mw4 136 (by decide +kernel) rfl, by decide, by decide, by decide, by decide +kernel⟩
theorem yv0_maySpend : YV yX0_maySpend cX0_maySpend 2 (some .boolean) 1 := ⟨mw4 152 (by decide +kernel) rfl, mw4 153 (by decide +kernel) rfl, mw1 4 (by decide +kernel) rfl, mw4 154 (by decide +kernel) rfl, by decide, by decide, by decide, by decide +kernel⟩
theorem yv0_mayTake : YV yX0_mayTake cX0_mayTake 2 (some .boolean) 1 := ⟨mw4 117 (by decide +kernel) rfl, mw4 118 (by decide +kernel) rfl, mw1 4 (by decide +kernel) rfl, mw4 119 (by decide +kernel) rfl, by decide, by decide, by decide, by decide +kernel⟩
theorem yv0_nimWith : YV yX0_nimWith cX0_nimWith 5 (some .int) 1 := ⟨mw4 144 (by decide +kernel) rfl, mw4 145 (by decide +kernel) rfl, mw1 4 (by decide +kernel) rfl, mw4 146 (by decide +kernel) rfl, by decide, by decide, by decide, by decide +kernel⟩
theorem yv0_rightOn : YV yX0_rightOn cX0_rightOn 4 (some .int) 1 := ⟨mw4 55 (by decide +kernel) rfl, mw4 56 (by decide +kernel) rfl, mw1 4 (by decide +kernel) rfl, mw4 57 (by decide +kernel) rfl, by decide, by decide, by decide, by decide +kernel⟩
theorem yv0_shear : YV yX0_shear cX0_shear 3 (some .int) 1 := ⟨mw4 107 (by decide +kernel) rfl, mw4 108 (by decide +kernel) rfl, mw1 4 (by decide +kernel) rfl, mw4 109 (by decide +kernel) rfl, by decide, by decide, by decide, by decide +kernel⟩
theorem yv0_spendOne : YV yX0_spendOne cX0_spendOne 2 none 1 := ⟨mw4 156 (by decide +kernel) rfl, mw4 157 (by decide +kernel) rfl, mw1 4 (by decide +kernel) rfl, mw4 158 (by decide +kernel) rfl, by decide, by decide, by decide, by decide +kernel⟩
theorem yv0_winBet : YV yX0_winBet cX0_winBet 3 none 2 := ⟨mw4 121 (by decide +kernel) rfl, mw4 122 (by decide +kernel) rfl, mw1 4 (by decide +kernel) rfl, mw4 123 (by decide +kernel) rfl, by decide, by decide, by decide, by decide +kernel⟩
theorem yv0_worthWith : YV yX0_worthWith cX0_worthWith 7 (some .long) 1 := ⟨mw4 195 (by decide +kernel) rfl, mw4 196 (by decide +kernel) rfl, mw1 4 (by decide +kernel) rfl, mw4 197 (by decide +kernel) rfl, by decide, by decide, by decide, by decide +kernel⟩
theorem yv10_bestParting : YV yX10_bestParting cX10_bestParting 6 (some .int) 1 := ⟨mw5 192 (by decide +kernel) rfl, mw5 193 (by decide +kernel) rfl, mw1 7 (by decide +kernel) rfl, mw5 194 (by decide +kernel) rfl, by decide, by decide, by decide, by decide +kernel⟩
theorem yv10_count : YV yX10_count cX10_count 4 none 2 := ⟨mw5 176 (by decide +kernel) rfl, mwP 15 (by decide +kernel) rfl, mw1 7 (by decide +kernel) rfl, mw5 177 (by decide +kernel) rfl, by decide, by decide, by decide, by decide +kernel⟩
theorem yv10_find : YV yX10_find cX10_find 7 none 3 := ⟨mw5 167 (by decide +kernel) rfl, mw5 168 (by decide +kernel) rfl, mw1 7 (by decide +kernel) rfl, mw5 169 (by decide +kernel) rfl, by decide, by decide, by decide, by decide +kernel⟩
theorem yv11_closeText : YV yX11_closeText cX11_closeText 1 (some .boolean) 0 := ⟨mw3 172 (by decide +kernel) rfl, mwP 6 (by decide +kernel) rfl, mw1 1 (by decide +kernel) rfl, mw3 173 (by decide +kernel) rfl, by decide, by decide, by decide, by decide +kernel⟩
theorem yv11_findWays : YV yX11_findWays cX11_findWays 4 (some .boolean) 3 := ⟨mw5 157 (by decide +kernel) rfl, mwP 14 (by decide +kernel) rfl, mw1 1 (by decide +kernel) rfl, mw5 158 (by decide +kernel) rfl, by decide, by decide, by decide, by decide +kernel⟩
theorem yv11_no : YV yX11_no cX11_no 2 (some .boolean) 1 := ⟨mw2 163 (by decide +kernel) rfl, mwP 0 (by decide +kernel) rfl, mw1 1 (by decide +kernel) rfl, mw2 164 (by decide +kernel) rfl, by decide, by decide, by decide, by decide +kernel⟩
theorem yv11_none : YV yX11_none cX11_none 2 (some .int) 1 := ⟨mw2 204 (by decide +kernel) rfl, mwP 3 (by decide +kernel) rfl, mw1 1 (by decide +kernel) rfl, mw2 205 (by decide +kernel) rfl, by decide, by decide, by decide, by decide +kernel⟩
theorem yv11_placeStatus : YV yX11_placeStatus cX11_placeStatus 3 (some .int) 2 := ⟨mw2 180 (by decide +kernel) rfl, mwP 2 (by decide +kernel) rfl, mw1 1 (by decide +kernel) rfl, mw2 181 (by decide +kernel) rfl, by decide, by decide, by decide, by decide +kernel⟩
theorem yv11_tellFraction : YV yX11_tellFraction cX11_tellFraction 7 (some .boolean) 2 := ⟨mw4 210 (by decide +kernel) rfl, mwP 9 (by decide +kernel) rfl, mw1 1 (by decide +kernel) rfl, mw4 211 (by decide +kernel) rfl, by decide, by decide, by decide, by decide +kernel⟩
theorem yv11_tellNumber : YV yX11_tellNumber cX11_tellNumber 3 (some .boolean) 1 := ⟨mw4 205 (by decide +kernel) rfl, mwP 8 (by decide +kernel) rfl, mw1 1 (by decide +kernel) rfl, mw4 206 (by decide +kernel) rfl, by decide, by decide, by decide, by decide +kernel⟩
theorem yv11_told : YV yX11_told cX11_told 2 (some .int) 1 := ⟨mw3 187 (by decide +kernel) rfl, mwP 7 (by decide +kernel) rfl, mw1 1 (by decide +kernel) rfl, mw3 188 (by decide +kernel) rfl, by decide, by decide, by decide, by decide +kernel⟩
theorem yv11_yes : YV yX11_yes cX11_yes 1 (some .boolean) 0 := ⟨mw2 172 (by decide +kernel) rfl, mwP 1 (by decide +kernel) rfl, mw1 1 (by decide +kernel) rfl, mw2 173 (by decide +kernel) rfl, by decide, by decide, by decide, by decide +kernel⟩
theorem yv12_advance : YV yX12_advance cX12_advance 2 none 0 := ⟨mw7 64 (by decide +kernel) rfl, mwP 33 (by decide +kernel) rfl, mw1 10 (by decide +kernel) rfl, mw7 65 (by decide +kernel) rfl, by decide, by decide, by decide, by decide +kernel⟩
theorem yv12_amiss : YV yX12_amiss cX12_amiss 1 none 0 := ⟨mw7 115 (by decide +kernel) rfl, mwP 43 (by decide +kernel) rfl, mw1 10 (by decide +kernel) rfl, mw7 116 (by decide +kernel) rfl, by decide, by decide, by decide, by decide +kernel⟩
theorem yv12_another : YV yX12_another cX12_another 3 none 2 := ⟨mw7 103 (by decide +kernel) rfl, mwP 40 (by decide +kernel) rfl, mw1 10 (by decide +kernel) rfl, mw7 104 (by decide +kernel) rfl, by decide, by decide, by decide, by decide +kernel⟩
theorem yv12_balances : YV yX12_balances cX12_balances 4 (some .int) 0 := ⟨mw9 49 (by decide +kernel) rfl, mwP 100 (by decide +kernel) rfl, mw1 10 (by decide +kernel) rfl, mw9 50 (by decide +kernel) rfl, by decide, by decide, by decide, by decide +kernel⟩
theorem yv12_canGrow : YV yX12_canGrow cX12_canGrow 3 (some .boolean) 2 := ⟨mw8 146 (by decide +kernel) rfl, mwP 88 (by decide +kernel) rfl, mw1 10 (by decide +kernel) rfl, mw8 147 (by decide +kernel) rfl, by decide, by decide, by decide, by decide +kernel⟩
theorem yv12_colourWord : YV yX12_colourWord cX12_colourWord 1 (some .int) 0 := ⟨mw7 123 (by decide +kernel) rfl, mwP 45 (by decide +kernel) rfl, mw1 10 (by decide +kernel) rfl, mw7 124 (by decide +kernel) rfl, by decide, by decide, by decide, by decide +kernel⟩
theorem yv12_copy : YV yX12_copy cX12_copy 4 none 2 := ⟨mw7 183 (by decide +kernel) rfl, mwP 59 (by decide +kernel) rfl, mw1 10 (by decide +kernel) rfl, mw7 184 (by decide +kernel) rfl, by decide, by decide, by decide, by decide +kernel⟩
theorem yv12_count : YV yX12_count cX12_count 4 (some .int) 2 := ⟨mw7 147 (by decide +kernel) rfl, mwP 50 (by decide +kernel) rfl, mw1 10 (by decide +kernel) rfl, mw7 148 (by decide +kernel) rfl, by decide, by decide, by decide, by decide +kernel⟩
theorem yv12_counts : YV yX12_counts cX12_counts 9 none 7 := ⟨mw8 199 (by decide +kernel) rfl, mwP 95 (by decide +kernel) rfl, mw1 10 (by decide +kernel) rfl, mw8 200 (by decide +kernel) rfl, by decide, by decide, by decide, by decide +kernel⟩
theorem yv12_cuts : YV yX12_cuts cX12_cuts 6 (some .int) 2 := ⟨mw8 104 (by decide +kernel) rfl, mwP 82 (by decide +kernel) rfl, mw1 10 (by decide +kernel) rfl, mw8 105 (by decide +kernel) rfl, by decide, by decide, by decide, by decide +kernel⟩
theorem yv12_doAll : YV yX12_doAll cX12_doAll 4 none 2 := ⟨mw9 86 (by decide +kernel) rfl, mwP 104 (by decide +kernel) rfl, mw1 10 (by decide +kernel) rfl, mw9 87 (by decide +kernel) rfl, by decide, by decide, by decide, by decide +kernel⟩
theorem yv12_doOne : YV yX12_doOne cX12_doOne 5 none 1 := ⟨mw9 90 (by decide +kernel) rfl, mwP 105 (by decide +kernel) rfl, mw1 10 (by decide +kernel) rfl, mw9 91 (by decide +kernel) rfl, by decide, by decide, by decide, by decide +kernel⟩
theorem yv12_does : YV yX12_does cX12_does 4 (some .boolean) 1 := ⟨mw9 94 (by decide +kernel) rfl, mwP 106 (by decide +kernel) rfl, mw1 10 (by decide +kernel) rfl, mw9 95 (by decide +kernel) rfl, by decide, by decide, by decide, by decide +kernel⟩
theorem yv12_draw : YV yX12_draw cX12_draw 2 (some .int) 1 := ⟨mw9 110 (by decide +kernel) rfl, mwP 110 (by decide +kernel) rfl, mw1 10 (by decide +kernel) rfl, mw9 111 (by decide +kernel) rfl, by decide, by decide, by decide, by decide +kernel⟩
theorem yv12_endsWith : YV yX12_endsWith cX12_endsWith 9 (some .int) 3 := ⟨mw8 175 (by decide +kernel) rfl, mwP 91 (by decide +kernel) rfl, mw1 10 (by decide +kernel) rfl, mw8 176 (by decide +kernel) rfl, by decide, by decide, by decide, by decide +kernel⟩
theorem yv12_fail : YV yX12_fail cX12_fail 3 none 2 := ⟨mw7 107 (by decide +kernel) rfl, mwP 41 (by decide +kernel) rfl, mw1 10 (by decide +kernel) rfl, mw7 108 (by decide +kernel) rfl, by decide, by decide, by decide, by decide +kernel⟩
theorem yv12_fallsBy : YV yX12_fallsBy cX12_fallsBy 2 (some .int) 1 := ⟨mw8 13 (by decide +kernel) rfl, mwP 73 (by decide +kernel) rfl, mw1 10 (by decide +kernel) rfl, mw8 14 (by decide +kernel) rfl, by decide, by decide, by decide, by decide +kernel⟩
theorem yv12_fraction : YV yX12_fraction cX12_fraction 11 (some .boolean) 2 := ⟨mw8 75 (by decide +kernel) rfl, mwP 80 (by decide +kernel) rfl, mw1 10 (by decide +kernel) rfl, mw8 76 (by decide +kernel) rfl, by decide, by decide, by decide, by decide +kernel⟩
theorem yv12_gainBy : YV yX12_gainBy cX12_gainBy 3 (some .int) 2 := ⟨mw8 120 (by decide +kernel) rfl, mwP 85 (by decide +kernel) rfl, mw1 10 (by decide +kernel) rfl, mw8 121 (by decide +kernel) rfl, by decide, by decide, by decide, by decide +kernel⟩
theorem yv12_grows : YV yX12_grows cX12_grows 6 none 3 := ⟨mw7 151 (by decide +kernel) rfl, mwP 51 (by decide +kernel) rfl, mw1 10 (by decide +kernel) rfl, mw7 152 (by decide +kernel) rfl, by decide, by decide, by decide, by decide +kernel⟩
theorem yv12_heatOf : YV yX12_heatOf cX12_heatOf 2 (some .int) 1 := ⟨mw8 183 (by decide +kernel) rfl, mwP 93 (by decide +kernel) rfl, mw1 10 (by decide +kernel) rfl, mw8 184 (by decide +kernel) rfl, by decide, by decide, by decide, by decide +kernel⟩
theorem yv12_holds : YV yX12_holds cX12_holds 8 (some .boolean) 1 := ⟨mw9 115 (by decide +kernel) rfl, mwP 111 (by decide +kernel) rfl, mw1 10 (by decide +kernel) rfl, mw9 116 (by decide +kernel) rfl, by decide, by decide, by decide, by decide +kernel⟩
theorem yv12_hottestBut : YV yX12_hottestBut cX12_hottestBut 4 (some .int) 1 := ⟨mw8 179 (by decide +kernel) rfl, mwP 92 (by decide +kernel) rfl, mw1 10 (by decide +kernel) rfl, mw8 180 (by decide +kernel) rfl, by decide, by decide, by decide, by decide +kernel⟩
theorem yv12_isAny : YV yX12_isAny cX12_isAny 2 (some .boolean) 0 := ⟨mw9 106 (by decide +kernel) rfl, mwP 109 (by decide +kernel) rfl, mw1 10 (by decide +kernel) rfl, mw9 107 (by decide +kernel) rfl, by decide, by decide, by decide, by decide +kernel⟩
theorem yv12_isAsked : YV yX12_isAsked cX12_isAsked 4 (some .boolean) 3 := ⟨mw9 21 (by decide +kernel) rfl, mwP 97 (by decide +kernel) rfl, mw1 10 (by decide +kernel) rfl, mw9 22 (by decide +kernel) rfl, by decide, by decide, by decide, by decide +kernel⟩
theorem yv12_isBalanced : YV yX12_isBalanced cX12_isBalanced 2 (some .boolean) 1 := ⟨mw9 53 (by decide +kernel) rfl, mwP 101 (by decide +kernel) rfl, mw1 10 (by decide +kernel) rfl, mw9 54 (by decide +kernel) rfl, by decide, by decide, by decide, by decide +kernel⟩
theorem yv12_isBet : YV yX12_isBet cX12_isBet 1 (some .boolean) 0 := ⟨mw7 163 (by decide +kernel) rfl, mwP 54 (by decide +kernel) rfl, mw1 10 (by decide +kernel) rfl, mw7 164 (by decide +kernel) rfl, by decide, by decide, by decide, by decide +kernel⟩
theorem yv12_isBetAt : YV yX12_isBetAt cX12_isBetAt 2 (some .boolean) 1 := ⟨mw8 39 (by decide +kernel) rfl, mwP 76 (by decide +kernel) rfl, mw1 10 (by decide +kernel) rfl, mw8 40 (by decide +kernel) rfl, by decide, by decide, by decide, by decide +kernel⟩
theorem yv12_isCut : YV yX12_isCut cX12_isCut 4 (some .boolean) 2 := ⟨mw9 98 (by decide +kernel) rfl, mwP 107 (by decide +kernel) rfl, mw1 10 (by decide +kernel) rfl, mw9 99 (by decide +kernel) rfl, by decide, by decide, by decide, by decide +kernel⟩
theorem yv12_isEnd : YV yX12_isEnd cX12_isEnd 1 (some .boolean) 0 := ⟨mw7 219 (by decide +kernel) rfl, mwP 67 (by decide +kernel) rfl, mw1 10 (by decide +kernel) rfl, mw7 220 (by decide +kernel) rfl, by decide, by decide, by decide, by decide +kernel⟩
theorem yv12_isGrown : YV yX12_isGrown cX12_isGrown 3 (some .boolean) 2 := ⟨mw9 102 (by decide +kernel) rfl, mwP 108 (by decide +kernel) rfl, mw1 10 (by decide +kernel) rfl, mw9 103 (by decide +kernel) rfl, by decide, by decide, by decide, by decide +kernel⟩
theorem yv12_isHeap : YV yX12_isHeap cX12_isHeap 1 (some .boolean) 0 := ⟨mw7 155 (by decide +kernel) rfl, mwP 52 (by decide +kernel) rfl, mw1 10 (by decide +kernel) rfl, mw7 156 (by decide +kernel) rfl, by decide, by decide, by decide, by decide +kernel⟩
theorem yv12_isHeapAt : YV yX12_isHeapAt cX12_isHeapAt 2 (some .boolean) 1 := ⟨mw8 31 (by decide +kernel) rfl, mwP 75 (by decide +kernel) rfl, mw1 10 (by decide +kernel) rfl, mw8 32 (by decide +kernel) rfl, by decide, by decide, by decide, by decide +kernel⟩
theorem yv12_isOn : YV yX12_isOn cX12_isOn 1 (some .boolean) 0 := ⟨mw7 128 (by decide +kernel) rfl, mwP 46 (by decide +kernel) rfl, mw1 10 (by decide +kernel) rfl, mw7 129 (by decide +kernel) rfl, by decide, by decide, by decide, by decide +kernel⟩
theorem yv12_isSet : YV yX12_isSet cX12_isSet 3 (some .boolean) 1 := ⟨mw9 25 (by decide +kernel) rfl, mwP 98 (by decide +kernel) rfl, mw1 10 (by decide +kernel) rfl, mw9 26 (by decide +kernel) rfl, by decide, by decide, by decide, by decide +kernel⟩
theorem yv12_isSign : YV yX12_isSign cX12_isSign 2 (some .boolean) 1 := ⟨mw7 175 (by decide +kernel) rfl, mwP 57 (by decide +kernel) rfl, mw1 10 (by decide +kernel) rfl, mw7 176 (by decide +kernel) rfl, by decide, by decide, by decide, by decide +kernel⟩
theorem yv12_isSignByte : YV yX12_isSignByte cX12_isSignByte 2 (some .boolean) 1 := ⟨mw7 80 (by decide +kernel) rfl, mwP 35 (by decide +kernel) rfl, mw1 10 (by decide +kernel) rfl, mw7 81 (by decide +kernel) rfl, by decide, by decide, by decide, by decide +kernel⟩
theorem yv12_isSprig : YV yX12_isSprig cX12_isSprig 1 (some .boolean) 0 := ⟨mw7 88 (by decide +kernel) rfl, mwP 37 (by decide +kernel) rfl, mw1 10 (by decide +kernel) rfl, mw7 89 (by decide +kernel) rfl, by decide, by decide, by decide, by decide +kernel⟩
theorem yv12_isSprigAt : YV yX12_isSprigAt cX12_isSprigAt 2 (some .boolean) 1 := ⟨mw8 4 (by decide +kernel) rfl, mwP 71 (by decide +kernel) rfl, mw1 10 (by decide +kernel) rfl, mw8 5 (by decide +kernel) rfl, by decide, by decide, by decide, by decide +kernel⟩
theorem yv12_isTray : YV yX12_isTray cX12_isTray 2 (some .boolean) 1 := ⟨mw8 50 (by decide +kernel) rfl, mwP 77 (by decide +kernel) rfl, mw1 10 (by decide +kernel) rfl, mw8 51 (by decide +kernel) rfl, by decide, by decide, by decide, by decide +kernel⟩
theorem yv12_isWell : YV yX12_isWell cX12_isWell 1 (some .boolean) 0 := ⟨mw7 179 (by decide +kernel) rfl, mwP 58 (by decide +kernel) rfl, mw1 10 (by decide +kernel) rfl, mw7 180 (by decide +kernel) rfl, by decide, by decide, by decide, by decide +kernel⟩
theorem yv12_isWord : YV yX12_isWord cX12_isWord 3 (some .boolean) 1 := ⟨mw7 95 (by decide +kernel) rfl, mwP 38 (by decide +kernel) rfl, mw1 10 (by decide +kernel) rfl, mw7 96 (by decide +kernel) rfl, by decide, by decide, by decide, by decide +kernel⟩
theorem yv12_lay : YV yX12_lay cX12_lay 3 none 1 := ⟨mw7 48 (by decide +kernel) rfl, mwP 31 (by decide +kernel) rfl, mw1 10 (by decide +kernel) rfl, mw7 49 (by decide +kernel) rfl, by decide, by decide, by decide, by decide +kernel⟩
theorem yv12_laysMoves : YV yX12_laysMoves cX12_laysMoves 7 none 1 := ⟨mw8 195 (by decide +kernel) rfl, mwP 94 (by decide +kernel) rfl, mw1 10 (by decide +kernel) rfl, mw8 196 (by decide +kernel) rfl, by decide, by decide, by decide, by decide +kernel⟩
theorem yv12_laysNow : YV yX12_laysNow cX12_laysNow 1 none 0 := ⟨mw8 60 (by decide +kernel) rfl, mwP 78 (by decide +kernel) rfl, mw1 10 (by decide +kernel) rfl, mw8 61 (by decide +kernel) rfl, by decide, by decide, by decide, by decide +kernel⟩
theorem yv12_laysWays : YV yX12_laysWays cX12_laysWays 7 none 2 := ⟨mw9 29 (by decide +kernel) rfl, mwP 99 (by decide +kernel) rfl, mw1 10 (by decide +kernel) rfl, mw9 30 (by decide +kernel) rfl, by decide, by decide, by decide, by decide +kernel⟩
theorem yv12_laysWorths : YV yX12_laysWorths cX12_laysWorths 7 none 3 := ⟨mw8 64 (by decide +kernel) rfl, mwP 79 (by decide +kernel) rfl, mw1 10 (by decide +kernel) rfl, mw8 65 (by decide +kernel) rfl, by decide, by decide, by decide, by decide +kernel⟩
theorem yv12_lessens : YV yX12_lessens cX12_lessens 3 (some .boolean) 2 := ⟨mw8 129 (by decide +kernel) rfl, mwP 86 (by decide +kernel) rfl, mw1 10 (by decide +kernel) rfl, mw8 130 (by decide +kernel) rfl, by decide, by decide, by decide, by decide +kernel⟩
theorem yv12_look2 : YV yX12_look2 cX12_look2 2 (some .int) 1 := ⟨mw7 68 (by decide +kernel) rfl, mwP 34 (by decide +kernel) rfl, mw1 10 (by decide +kernel) rfl, mw7 69 (by decide +kernel) rfl, by decide, by decide, by decide, by decide +kernel⟩
theorem yv12_luckOf : YV yX12_luckOf cX12_luckOf 9 (some .long) 2 := ⟨mw9 65 (by decide +kernel) rfl, mwP 102 (by decide +kernel) rfl, mw1 10 (by decide +kernel) rfl, mw9 66 (by decide +kernel) rfl, by decide, by decide, by decide, by decide +kernel⟩
theorem yv12_may : YV yX12_may cX12_may 3 (some .boolean) 2 := ⟨mw8 108 (by decide +kernel) rfl, mwP 83 (by decide +kernel) rfl, mw1 10 (by decide +kernel) rfl, mw8 109 (by decide +kernel) rfl, by decide, by decide, by decide, by decide +kernel⟩
theorem yv12_mayBe : YV yX12_mayBe cX12_mayBe 3 none 2 := ⟨mw7 136 (by decide +kernel) rfl, mwP 48 (by decide +kernel) rfl, mw1 10 (by decide +kernel) rfl, mw7 137 (by decide +kernel) rfl, by decide, by decide, by decide, by decide +kernel⟩
theorem yv12_mayGrow : YV yX12_mayGrow cX12_mayGrow 4 (some .boolean) 3 := ⟨mw7 143 (by decide +kernel) rfl, mwP 49 (by decide +kernel) rfl, mw1 10 (by decide +kernel) rfl, mw7 144 (by decide +kernel) rfl, by decide, by decide, by decide, by decide +kernel⟩
theorem yv12_must : YV yX12_must cX12_must 2 none 1 := ⟨mw7 111 (by decide +kernel) rfl, mwP 42 (by decide +kernel) rfl, mw1 10 (by decide +kernel) rfl, mw7 112 (by decide +kernel) rfl, by decide, by decide, by decide, by decide +kernel⟩
theorem yv12_no : YV yX12_no cX12_no 2 (some .boolean) 1 := ⟨mw7 16 (by decide +kernel) rfl, mwP 28 (by decide +kernel) rfl, mw1 10 (by decide +kernel) rfl, mw7 17 (by decide +kernel) rfl, by decide, by decide, by decide, by decide +kernel⟩
theorem yv12_numberOf : YV yX12_numberOf cX12_numberOf 3 (some .long) 2 := ⟨mw9 13 (by decide +kernel) rfl, mwP 96 (by decide +kernel) rfl, mw1 10 (by decide +kernel) rfl, mw9 14 (by decide +kernel) rfl, by decide, by decide, by decide, by decide +kernel⟩
theorem yv12_offers : YV yX12_offers cX12_offers 6 none 3 := ⟨mw7 171 (by decide +kernel) rfl, mwP 56 (by decide +kernel) rfl, mw1 10 (by decide +kernel) rfl, mw7 172 (by decide +kernel) rfl, by decide, by decide, by decide, by decide +kernel⟩
theorem yv12_perhaps : YV yX12_perhaps cX12_perhaps 2 (some .boolean) 1 := ⟨mw7 132 (by decide +kernel) rfl, mwP 47 (by decide +kernel) rfl, mw1 10 (by decide +kernel) rfl, mw7 133 (by decide +kernel) rfl, by decide, by decide, by decide, by decide +kernel⟩
theorem yv12_placed : YV yX12_placed cX12_placed 4 (some .int) 2 := ⟨mw7 24 (by decide +kernel) rfl, mwP 29 (by decide +kernel) rfl, mw1 10 (by decide +kernel) rfl, mw7 25 (by decide +kernel) rfl, by decide, by decide, by decide, by decide +kernel⟩
theorem yv12_readBet : YV yX12_readBet cX12_readBet 3 none 0 := ⟨mw7 167 (by decide +kernel) rfl, mwP 55 (by decide +kernel) rfl, mw1 10 (by decide +kernel) rfl, mw7 168 (by decide +kernel) rfl, by decide, by decide, by decide, by decide +kernel⟩
theorem yv12_readColour : YV yX12_readColour cX12_readColour 2 (some .int) 0 := ⟨mw7 119 (by decide +kernel) rfl, mwP 44 (by decide +kernel) rfl, mw1 10 (by decide +kernel) rfl, mw7 120 (by decide +kernel) rfl, by decide, by decide, by decide, by decide +kernel⟩
theorem yv12_readHeap : YV yX12_readHeap cX12_readHeap 2 none 0 := ⟨mw7 159 (by decide +kernel) rfl, mwP 53 (by decide +kernel) rfl, mw1 10 (by decide +kernel) rfl, mw7 160 (by decide +kernel) rfl, by decide, by decide, by decide, by decide +kernel⟩
theorem yv12_readPart : YV yX12_readPart cX12_readPart 1 none 0 := ⟨mw7 84 (by decide +kernel) rfl, mwP 36 (by decide +kernel) rfl, mw1 10 (by decide +kernel) rfl, mw7 85 (by decide +kernel) rfl, by decide, by decide, by decide, by decide +kernel⟩
theorem yv12_readRest : YV yX12_readRest cX12_readRest 3 none 1 := ⟨mw7 199 (by decide +kernel) rfl, mwP 62 (by decide +kernel) rfl, mw1 10 (by decide +kernel) rfl, mw7 200 (by decide +kernel) rfl, by decide, by decide, by decide, by decide +kernel⟩
theorem yv12_readSide : YV yX12_readSide cX12_readSide 2 (some .int) 0 := ⟨mw7 203 (by decide +kernel) rfl, mwP 63 (by decide +kernel) rfl, mw1 10 (by decide +kernel) rfl, mw7 204 (by decide +kernel) rfl, by decide, by decide, by decide, by decide +kernel⟩
theorem yv12_readSprig : YV yX12_readSprig cX12_readSprig 3 none 0 := ⟨mw7 99 (by decide +kernel) rfl, mwP 39 (by decide +kernel) rfl, mw1 10 (by decide +kernel) rfl, mw7 100 (by decide +kernel) rfl, by decide, by decide, by decide, by decide +kernel⟩
theorem yv12_readStep : YV yX12_readStep cX12_readStep 5 none 1 := ⟨mw7 191 (by decide +kernel) rfl, mwP 60 (by decide +kernel) rfl, mw1 10 (by decide +kernel) rfl, mw7 192 (by decide +kernel) rfl, by decide, by decide, by decide, by decide +kernel⟩
theorem yv12_readTest : YV yX12_readTest cX12_readTest 3 none 1 := ⟨mw7 211 (by decide +kernel) rfl, mwP 65 (by decide +kernel) rfl, mw1 10 (by decide +kernel) rfl, mw7 212 (by decide +kernel) rfl, by decide, by decide, by decide, by decide +kernel⟩
theorem yv12_refuse : YV yX12_refuse cX12_refuse 2 (some .int) 1 := ⟨mw7 228 (by decide +kernel) rfl, mwP 68 (by decide +kernel) rfl, mw1 10 (by decide +kernel) rfl, mw7 229 (by decide +kernel) rfl, by decide, by decide, by decide, by decide +kernel⟩
theorem yv12_rightOn : YV yX12_rightOn cX12_rightOn 4 (some .int) 1 := ⟨mw8 9 (by decide +kernel) rfl, mwP 72 (by decide +kernel) rfl, mw1 10 (by decide +kernel) rfl, mw8 10 (by decide +kernel) rfl, by decide, by decide, by decide, by decide +kernel⟩
theorem yv12_runsSeasons : YV yX12_runsSeasons cX12_runsSeasons 2 none 1 := ⟨mw9 82 (by decide +kernel) rfl, mwP 103 (by decide +kernel) rfl, mw1 10 (by decide +kernel) rfl, mw9 83 (by decide +kernel) rfl, by decide, by decide, by decide, by decide +kernel⟩
theorem yv12_sideWord : YV yX12_sideWord cX12_sideWord 1 (some .int) 0 := ⟨mw7 207 (by decide +kernel) rfl, mwP 64 (by decide +kernel) rfl, mw1 10 (by decide +kernel) rfl, mw7 208 (by decide +kernel) rfl, by decide, by decide, by decide, by decide +kernel⟩
theorem yv12_spending : YV yX12_spending cX12_spending 2 (some .int) 1 := ⟨mw8 137 (by decide +kernel) rfl, mwP 87 (by decide +kernel) rfl, mw1 10 (by decide +kernel) rfl, mw8 138 (by decide +kernel) rfl, by decide, by decide, by decide, by decide +kernel⟩
theorem yv12_standing : YV yX12_standing cX12_standing 3 (some .int) 0 := ⟨mw7 232 (by decide +kernel) rfl, mwP 69 (by decide +kernel) rfl, mw1 10 (by decide +kernel) rfl, mw7 233 (by decide +kernel) rfl, by decide, by decide, by decide, by decide +kernel⟩
theorem yv12_standsBut : YV yX12_standsBut cX12_standsBut 5 (some .int) 2 := ⟨mw8 17 (by decide +kernel) rfl, mwP 74 (by decide +kernel) rfl, mw1 10 (by decide +kernel) rfl, mw8 18 (by decide +kernel) rfl, by decide, by decide, by decide, by decide +kernel⟩
theorem yv12_starts : YV yX12_starts cX12_starts 3 (some .boolean) 2 := ⟨mw7 60 (by decide +kernel) rfl, mwP 32 (by decide +kernel) rfl, mw1 10 (by decide +kernel) rfl, mw7 61 (by decide +kernel) rfl, by decide, by decide, by decide, by decide +kernel⟩
theorem yv12_stepWord : YV yX12_stepWord cX12_stepWord 1 (some .int) 0 := ⟨mw7 195 (by decide +kernel) rfl, mwP 61 (by decide +kernel) rfl, mw1 10 (by decide +kernel) rfl, mw7 196 (by decide +kernel) rfl, by decide, by decide, by decide, by decide +kernel⟩
theorem yv12_taken : YV yX12_taken cX12_taken 3 (some .int) 0 := ⟨mw7 236 (by decide +kernel) rfl, mwP 70 (by decide +kernel) rfl, mw1 10 (by decide +kernel) rfl, mw7 237 (by decide +kernel) rfl, by decide, by decide, by decide, by decide +kernel⟩
theorem yv12_takes : YV yX12_takes cX12_takes 3 (some .boolean) 2 := ⟨mw8 116 (by decide +kernel) rfl, mwP 84 (by decide +kernel) rfl, mw1 10 (by decide +kernel) rfl, mw8 117 (by decide +kernel) rfl, by decide, by decide, by decide, by decide +kernel⟩
theorem yv12_testWord : YV yX12_testWord cX12_testWord 1 (some .int) 0 := ⟨mw7 215 (by decide +kernel) rfl, mwP 66 (by decide +kernel) rfl, mw1 10 (by decide +kernel) rfl, mw7 216 (by decide +kernel) rfl, by decide, by decide, by decide, by decide +kernel⟩
theorem yv12_trayed : YV yX12_trayed cX12_trayed 2 (some .int) 1 := ⟨mw7 28 (by decide +kernel) rfl, mwP 30 (by decide +kernel) rfl, mw1 10 (by decide +kernel) rfl, mw7 29 (by decide +kernel) rfl, by decide, by decide, by decide, by decide +kernel⟩
theorem yv12_whyNoBranch : YV yX12_whyNoBranch cX12_whyNoBranch 3 (some .int) 2 := ⟨mw8 84 (by decide +kernel) rfl, mwP 81 (by decide +kernel) rfl, mw1 10 (by decide +kernel) rfl, mw8 85 (by decide +kernel) rfl, by decide, by decide, by decide, by decide +kernel⟩
theorem yv12_winnerNow : YV yX12_winnerNow cX12_winnerNow 2 (some .int) 1 := ⟨mw8 167 (by decide +kernel) rfl, mwP 89 (by decide +kernel) rfl, mw1 10 (by decide +kernel) rfl, mw8 168 (by decide +kernel) rfl, by decide, by decide, by decide, by decide +kernel⟩
theorem yv12_winnerOf : YV yX12_winnerOf cX12_winnerOf 7 (some .int) 4 := ⟨mw8 171 (by decide +kernel) rfl, mwP 90 (by decide +kernel) rfl, mw1 10 (by decide +kernel) rfl, mw8 172 (by decide +kernel) rfl, by decide, by decide, by decide, by decide +kernel⟩
theorem yv12_write : YV yX12_write cX12_write 5 (some .boolean) 3 := ⟨mw7 19 (by decide +kernel) rfl, mw7 20 (by decide +kernel) rfl, mw1 10 (by decide +kernel) rfl, mw7 21 (by decide +kernel) rfl, by decide, by decide, by decide, by decide +kernel⟩
theorem yv2_behindEnd : YV yX2_behindEnd cX2_behindEnd 4 (some .int) 2 := ⟨mw6 23 (by decide +kernel) rfl, mwP 20 (by decide +kernel) rfl, mw1 9 (by decide +kernel) rfl, mw6 24 (by decide +kernel) rfl, by decide, by decide, by decide, by decide +kernel⟩
theorem yv2_cutAny : YV yX2_cutAny cX2_cutAny 3 none 1 := ⟨mw6 55 (by decide +kernel) rfl, mwP 26 (by decide +kernel) rfl, mw1 9 (by decide +kernel) rfl, mw6 56 (by decide +kernel) rfl, by decide, by decide, by decide, by decide +kernel⟩
theorem yv2_cutOff : YV yX2_cutOff cX2_cutOff 4 none 3 := ⟨mw6 31 (by decide +kernel) rfl, mwP 22 (by decide +kernel) rfl, mw1 9 (by decide +kernel) rfl, mw6 32 (by decide +kernel) rfl, by decide, by decide, by decide, by decide +kernel⟩
theorem yv2_doStep : YV yX2_doStep cX2_doStep 6 (some .int) 3 := ⟨mw6 27 (by decide +kernel) rfl, mwP 21 (by decide +kernel) rfl, mw1 9 (by decide +kernel) rfl, mw6 28 (by decide +kernel) rfl, by decide, by decide, by decide, by decide +kernel⟩
theorem yv2_draw : YV yX2_draw cX2_draw 2 (some .int) 1 := ⟨mw6 59 (by decide +kernel) rfl, mwP 27 (by decide +kernel) rfl, mw1 9 (by decide +kernel) rfl, mw6 60 (by decide +kernel) rfl, by decide, by decide, by decide, by decide +kernel⟩
theorem yv2_growOne : YV yX2_growOne cX2_growOne 4 none 3 := ⟨mw6 49 (by decide +kernel) rfl, mwP 25 (by decide +kernel) rfl, mw1 9 (by decide +kernel) rfl, mw6 50 (by decide +kernel) rfl, by decide, by decide, by decide, by decide +kernel⟩
theorem yv2_lessenHeap : YV yX2_lessenHeap cX2_lessenHeap 4 none 3 := ⟨mw6 43 (by decide +kernel) rfl, mwP 24 (by decide +kernel) rfl, mw1 9 (by decide +kernel) rfl, mw6 44 (by decide +kernel) rfl, by decide, by decide, by decide, by decide +kernel⟩
theorem yv2_run : YV yX2_run cX2_run 6 none 3 := ⟨mw6 17 (by decide +kernel) rfl, mw6 18 (by decide +kernel) rfl, mw1 9 (by decide +kernel) rfl, mw6 19 (by decide +kernel) rfl, by decide, by decide, by decide, by decide +kernel⟩
theorem yv2_takeBet : YV yX2_takeBet cX2_takeBet 4 none 3 := ⟨mw6 37 (by decide +kernel) rfl, mwP 23 (by decide +kernel) rfl, mw1 9 (by decide +kernel) rfl, mw6 38 (by decide +kernel) rfl, by decide, by decide, by decide, by decide +kernel⟩
theorem yv4_look : YV yX4_look cX4_look 8 none 2 := ⟨mw5 46 (by decide +kernel) rfl, mw5 47 (by decide +kernel) rfl, mw1 6 (by decide +kernel) rfl, mw5 48 (by decide +kernel) rfl, by decide, by decide, by decide, by decide +kernel⟩
theorem yv4_lookAtBets : YV yX4_lookAtBets cX4_lookAtBets 9 none 4 := ⟨mw5 64 (by decide +kernel) rfl, mwP 12 (by decide +kernel) rfl, mw1 6 (by decide +kernel) rfl, mw5 65 (by decide +kernel) rfl, by decide, by decide, by decide, by decide +kernel⟩
theorem yv4_lookAtCuts : YV yX4_lookAtCuts cX4_lookAtCuts 5 none 2 := ⟨mw5 51 (by decide +kernel) rfl, mwP 10 (by decide +kernel) rfl, mw1 6 (by decide +kernel) rfl, mw5 52 (by decide +kernel) rfl, by decide, by decide, by decide, by decide +kernel⟩
theorem yv4_lookAtHeaps : YV yX4_lookAtHeaps cX4_lookAtHeaps 9 none 4 := ⟨mw5 69 (by decide +kernel) rfl, mwP 13 (by decide +kernel) rfl, mw1 6 (by decide +kernel) rfl, mw5 70 (by decide +kernel) rfl, by decide, by decide, by decide, by decide +kernel⟩
theorem yv4_note : YV yX4_note cX4_note 5 none 4 := ⟨mw5 60 (by decide +kernel) rfl, mwP 11 (by decide +kernel) rfl, mw1 6 (by decide +kernel) rfl, mw5 61 (by decide +kernel) rfl, by decide, by decide, by decide, by decide +kernel⟩
theorem yv5_add : YV yX5_add cX5_add 5 none 4 := ⟨mw4 5 (by decide +kernel) rfl, mw4 6 (by decide +kernel) rfl, mw1 5 (by decide +kernel) rfl, mw4 7 (by decide +kernel) rfl, by decide, by decide, by decide, by decide +kernel⟩
theorem yv5_begin : YV yX5_begin cX5_begin 1 none 0 := ⟨mw3 197 (by decide +kernel) rfl, mw3 198 (by decide +kernel) rfl, mw1 5 (by decide +kernel) rfl, mw3 199 (by decide +kernel) rfl, by decide, by decide, by decide, by decide +kernel⟩
theorem yv5_close : YV yX5_close cX5_close 2 none 0 := ⟨mw3 210 (by decide +kernel) rfl, mw3 211 (by decide +kernel) rfl, mw1 5 (by decide +kernel) rfl, mw3 212 (by decide +kernel) rfl, by decide, by decide, by decide, by decide +kernel⟩
theorem yv5_forget : YV yX5_forget cX5_forget 1 none 0 := ⟨mw3 182 (by decide +kernel) rfl, mw3 183 (by decide +kernel) rfl, mw1 5 (by decide +kernel) rfl, mw3 184 (by decide +kernel) rfl, by decide, by decide, by decide, by decide +kernel⟩
theorem yv5_hasEntry : YV yX5_hasEntry cX5_hasEntry 2 (some .boolean) 1 := ⟨mw3 214 (by decide +kernel) rfl, mw3 215 (by decide +kernel) rfl, mw1 5 (by decide +kernel) rfl, mw3 216 (by decide +kernel) rfl, by decide, by decide, by decide, by decide +kernel⟩
theorem yv7_balances : YV yX7_balances cX7_balances 5 (some .boolean) 2 := ⟨mw5 211 (by decide +kernel) rfl, mwP 17 (by decide +kernel) rfl, mw1 8 (by decide +kernel) rfl, mw5 212 (by decide +kernel) rfl, by decide, by decide, by decide, by decide +kernel⟩
theorem yv7_balancing : YV yX7_balancing cX7_balancing 4 (some .int) 1 := ⟨mw5 201 (by decide +kernel) rfl, mw5 202 (by decide +kernel) rfl, mw1 8 (by decide +kernel) rfl, mw5 203 (by decide +kernel) rfl, by decide, by decide, by decide, by decide +kernel⟩
theorem yv7_gather : YV yX7_gather cX7_gather 6 (some .int) 1 := ⟨mw6 1 (by decide +kernel) rfl, mwP 18 (by decide +kernel) rfl, mw1 8 (by decide +kernel) rfl, mw6 2 (by decide +kernel) rfl, by decide, by decide, by decide, by decide +kernel⟩
theorem yv7_leastOf : YV yX7_leastOf cX7_leastOf 5 (some .int) 2 := ⟨mw5 207 (by decide +kernel) rfl, mwP 16 (by decide +kernel) rfl, mw1 8 (by decide +kernel) rfl, mw5 208 (by decide +kernel) rfl, by decide, by decide, by decide, by decide +kernel⟩
theorem yv7_oddsOf : YV yX7_oddsOf cX7_oddsOf 8 (some .long) 3 := ⟨mw6 6 (by decide +kernel) rfl, mwP 19 (by decide +kernel) rfl, mw1 8 (by decide +kernel) rfl, mw6 7 (by decide +kernel) rfl, by decide, by decide, by decide, by decide +kernel⟩
theorem yv7_oddsOfLeft : YV yX7_oddsOfLeft cX7_oddsOfLeft 6 (some .long) 2 := ⟨mw5 236 (by decide +kernel) rfl, mw5 237 (by decide +kernel) rfl, mw1 8 (by decide +kernel) rfl, mw5 238 (by decide +kernel) rfl, by decide, by decide, by decide, by decide +kernel⟩
theorem yv8_append : YV yX8_append cX8_append 3 none 1 := ⟨mw2 235 (by decide +kernel) rfl, mw2 236 (by decide +kernel) rfl, mw1 3 (by decide +kernel) rfl, mw2 237 (by decide +kernel) rfl, by decide, by decide, by decide, by decide +kernel⟩
theorem yv8_charAt : YV yX8_charAt cX8_charAt 2 (some .int) 1 := ⟨mw3 19 (by decide +kernel) rfl, mwP 4 (by decide +kernel) rfl, mw1 3 (by decide +kernel) rfl, mw3 20 (by decide +kernel) rfl, by decide, by decide, by decide, by decide +kernel⟩
theorem yv8_empty : YV yX8_empty cX8_empty 1 none 0 := ⟨mw3 175 (by decide +kernel) rfl, mw3 176 (by decide +kernel) rfl, mw1 3 (by decide +kernel) rfl, mw3 177 (by decide +kernel) rfl, by decide, by decide, by decide, by decide +kernel⟩
theorem yv8_goesOn : YV yX8_goesOn cX8_goesOn 1 (some .boolean) 0 := ⟨mw3 45 (by decide +kernel) rfl, mw3 46 (by decide +kernel) rfl, mw1 3 (by decide +kernel) rfl, mw3 47 (by decide +kernel) rfl, by decide, by decide, by decide, by decide +kernel⟩
theorem yv8_hasRoom : YV yX8_hasRoom cX8_hasRoom 2 (some .boolean) 1 := ⟨mw2 231 (by decide +kernel) rfl, mw2 232 (by decide +kernel) rfl, mw1 3 (by decide +kernel) rfl, mw2 233 (by decide +kernel) rfl, by decide, by decide, by decide, by decide +kernel⟩
theorem yv8_isMark : YV yX8_isMark cX8_isMark 2 (some .boolean) 1 := ⟨mw3 147 (by decide +kernel) rfl, mw3 148 (by decide +kernel) rfl, mw1 3 (by decide +kernel) rfl, mw3 149 (by decide +kernel) rfl, by decide, by decide, by decide, by decide +kernel⟩
theorem yv8_isNumberBelow : YV yX8_isNumberBelow cX8_isNumberBelow 2 (some .boolean) 1 := ⟨mw3 123 (by decide +kernel) rfl, mw3 124 (by decide +kernel) rfl, mw1 3 (by decide +kernel) rfl, mw3 125 (by decide +kernel) rfl, by decide, by decide, by decide, by decide +kernel⟩
theorem yv8_isWord : YV yX8_isWord cX8_isWord 3 (some .boolean) 1 := ⟨mw3 50 (by decide +kernel) rfl, mw3 51 (by decide +kernel) rfl, mw1 3 (by decide +kernel) rfl, mw3 52 (by decide +kernel) rfl, by decide, by decide, by decide, by decide +kernel⟩
theorem yv8_open : YV yX8_open cX8_open 2 none 1 := ⟨mw3 4 (by decide +kernel) rfl, mw3 5 (by decide +kernel) rfl, mw1 3 (by decide +kernel) rfl, mw3 6 (by decide +kernel) rfl, by decide, by decide, by decide, by decide +kernel⟩
theorem yv8_readNumber : YV yX8_readNumber cX8_readNumber 1 none 0 := ⟨mw3 32 (by decide +kernel) rfl, mwP 5 (by decide +kernel) rfl, mw1 3 (by decide +kernel) rfl, mw3 33 (by decide +kernel) rfl, by decide, by decide, by decide, by decide +kernel⟩
theorem yv8_refuse : YV yX8_refuse cX8_refuse 2 none 1 := ⟨mw3 105 (by decide +kernel) rfl, mw3 106 (by decide +kernel) rfl, mw1 3 (by decide +kernel) rfl, mw3 107 (by decide +kernel) rfl, by decide, by decide, by decide, by decide +kernel⟩
theorem yv8_step : YV yX8_step cX8_step 2 none 0 := ⟨mw3 14 (by decide +kernel) rfl, mw3 15 (by decide +kernel) rfl, mw1 3 (by decide +kernel) rfl, mw3 16 (by decide +kernel) rfl, by decide, by decide, by decide, by decide +kernel⟩
theorem yv8_takeClose : YV yX8_takeClose cX8_takeClose 1 none 0 := ⟨mw3 143 (by decide +kernel) rfl, mw3 144 (by decide +kernel) rfl, mw1 3 (by decide +kernel) rfl, mw3 145 (by decide +kernel) rfl, by decide, by decide, by decide, by decide +kernel⟩
theorem yv8_takeColour : YV yX8_takeColour cX8_takeColour 2 (some .int) 0 := ⟨mw3 110 (by decide +kernel) rfl, mw3 111 (by decide +kernel) rfl, mw1 3 (by decide +kernel) rfl, mw3 112 (by decide +kernel) rfl, by decide, by decide, by decide, by decide +kernel⟩
theorem yv8_takeNumber : YV yX8_takeNumber cX8_takeNumber 4 (some .int) 2 := ⟨mw3 139 (by decide +kernel) rfl, mw3 140 (by decide +kernel) rfl, mw1 3 (by decide +kernel) rfl, mw3 141 (by decide +kernel) rfl, by decide, by decide, by decide, by decide +kernel⟩
theorem yv8_takeSide : YV yX8_takeSide cX8_takeSide 2 (some .int) 0 := ⟨mw3 238 (by decide +kernel) rfl, mw3 239 (by decide +kernel) rfl, mw1 3 (by decide +kernel) rfl, mw4 0 (by decide +kernel) rfl, by decide, by decide, by decide, by decide +kernel⟩
theorem yv8_valueHere : YV yX8_valueHere cX8_valueHere 1 (some .int) 0 := ⟨mw3 127 (by decide +kernel) rfl, mw3 128 (by decide +kernel) rfl, mw1 3 (by decide +kernel) rfl, mw3 129 (by decide +kernel) rfl, by decide, by decide, by decide, by decide +kernel⟩
theorem yv9_at : YV yX9_at cX9_at 3 (some .long) 2 := ⟨mw2 207 (by decide +kernel) rfl, mw2 208 (by decide +kernel) rfl, mw1 2 (by decide +kernel) rfl, mw2 209 (by decide +kernel) rfl, by decide, by decide, by decide, by decide +kernel⟩
theorem yv9_holds : YV yX9_holds cX9_holds 4 (some .boolean) 3 := ⟨mw2 187 (by decide +kernel) rfl, mw2 188 (by decide +kernel) rfl, mw1 2 (by decide +kernel) rfl, mw2 189 (by decide +kernel) rfl, by decide, by decide, by decide, by decide +kernel⟩
theorem yv9_isMissing : YV yX9_isMissing cX9_isMissing 2 (some .boolean) 1 := ⟨mw2 183 (by decide +kernel) rfl, mw2 184 (by decide +kernel) rfl, mw1 2 (by decide +kernel) rfl, mw2 185 (by decide +kernel) rfl, by decide, by decide, by decide, by decide +kernel⟩
theorem yv9_lay : YV yX9_lay cX9_lay 5 none 3 := ⟨mw2 166 (by decide +kernel) rfl, mw2 167 (by decide +kernel) rfl, mw1 2 (by decide +kernel) rfl, mw2 168 (by decide +kernel) rfl, by decide, by decide, by decide, by decide +kernel⟩
theorem yv9_move : YV yX9_move cX9_move 6 none 5 := ⟨mw2 220 (by decide +kernel) rfl, mw2 221 (by decide +kernel) rfl, mw1 2 (by decide +kernel) rfl, mw2 222 (by decide +kernel) rfl, by decide, by decide, by decide, by decide +kernel⟩
theorem yv9_put : YV yX9_put cX9_put 5 none 3 := ⟨mw2 191 (by decide +kernel) rfl, mw2 192 (by decide +kernel) rfl, mw1 2 (by decide +kernel) rfl, mw2 193 (by decide +kernel) rfl, by decide, by decide, by decide, by decide +kernel⟩
theorem yv9_sortOf : YV yX9_sortOf cX9_sortOf 2 (some .int) 1 := ⟨mw2 216 (by decide +kernel) rfl, mw2 217 (by decide +kernel) rfl, mw1 2 (by decide +kernel) rfl, mw2 218 (by decide +kernel) rfl, by decide, by decide, by decide, by decide +kernel⟩
theorem yvJ0_charAt_5068e : YV yJ0_charAt_5068e cJ0_charAt_5068e 2 (some .char) 1 := ⟨mw3 64 (by decide +kernel) rfl, mw3 65 (by decide +kernel) rfl, mw1 14 (by decide +kernel) rfl, mw3 66 (by decide +kernel) rfl, by decide, by decide, by decide, by decide +kernel⟩
theorem yvJ0_coder_7d493 : YV yJ0_coder_7d493 cJ0_coder_7d493 1 (some .byte) 0 := ⟨mw3 58 (by decide +kernel) rfl, mw3 59 (by decide +kernel) rfl, mw1 14 (by decide +kernel) rfl, mw3 60 (by decide +kernel) rfl, by decide, by decide, by decide, by decide +kernel⟩
theorem yvJ0_isLatin1_aae02 : YV yJ0_isLatin1_aae02 cJ0_isLatin1_aae02 1 (some .boolean) 0 := ⟨mw3 68 (by decide +kernel) rfl, mw3 69 (by decide +kernel) rfl, mw1 14 (by decide +kernel) rfl, mw3 70 (by decide +kernel) rfl, by decide, by decide, by decide, by decide +kernel⟩
theorem yvJ0_length_8abf5 : YV yJ0_length_8abf5 cJ0_length_8abf5 1 (some .int) 0 := ⟨mw3 54 (by decide +kernel) rfl, mw3 55 (by decide +kernel) rfl, mw1 14 (by decide +kernel) rfl, mw3 56 (by decide +kernel) rfl, by decide, by decide, by decide, by decide +kernel⟩
theorem ys0_canBeBet : YS yX0_canBeBet cX0_canBeBet 2 (some .boolean) 2 := ⟨mw4 187 (by decide +kernel) rfl, mw1 4 (by decide +kernel) rfl, mw4 188 (by decide +kernel) rfl, by decide, by decide, by decide, by decide +kernel⟩
theorem ys0_copy : YS yX0_copy cX0_copy 3 none 2 := ⟨mw3 179 (by decide +kernel) rfl, mw1 4 (by decide +kernel) rfl, mw3 180 (by decide +kernel) rfl, by decide, by decide, by decide, by decide +kernel⟩
theorem ys10_canBe : YS yX10_canBe cX10_canBe 3 (some .boolean) 2 := ⟨mw5 160 (by decide +kernel) rfl, mw1 7 (by decide +kernel) rfl, mw5 161 (by decide +kernel) rfl, by decide, by decide, by decide, by decide +kernel⟩
theorem ys10_colourAll : YS yX10_colourAll cX10_colourAll 4 none 3 := ⟨mw5 171 (by decide +kernel) rfl, mw1 7 (by decide +kernel) rfl, mw5 172 (by decide +kernel) rfl, by decide, by decide, by decide, by decide +kernel⟩
theorem ys11_isIn : YS yX11_isIn cX11_isIn 2 (some .boolean) 2 := ⟨mw4 52 (by decide +kernel) rfl, mw1 1 (by decide +kernel) rfl, mw4 53 (by decide +kernel) rfl, by decide, by decide, by decide, by decide +kernel⟩
theorem ys11_isSide : YS yX11_isSide cX11_isSide 1 (some .boolean) 1 := ⟨mw4 86 (by decide +kernel) rfl, mw1 1 (by decide +kernel) rfl, mw4 87 (by decide +kernel) rfl, by decide, by decide, by decide, by decide +kernel⟩
theorem ys11_other : YS yX11_other cX11_other 1 (some .int) 1 := ⟨mw5 27 (by decide +kernel) rfl, mw1 1 (by decide +kernel) rfl, mw5 28 (by decide +kernel) rfl, by decide, by decide, by decide, by decide +kernel⟩
theorem ys12_blueWorth : YS yX12_blueWorth cX12_blueWorth 3 (some .long) 1 := ⟨mw8 71 (by decide +kernel) rfl, mw1 10 (by decide +kernel) rfl, mw8 72 (by decide +kernel) rfl, by decide, by decide, by decide, by decide +kernel⟩
theorem ys12_branchWorth : YS yX12_branchWorth cX12_branchWorth 3 (some .long) 2 := ⟨mw8 68 (by decide +kernel) rfl, mw1 10 (by decide +kernel) rfl, mw8 69 (by decide +kernel) rfl, by decide, by decide, by decide, by decide +kernel⟩
theorem ys12_commonOf : YS yX12_commonOf cX12_commonOf 1 (some .long) 1 := ⟨mw9 71 (by decide +kernel) rfl, mw1 10 (by decide +kernel) rfl, mw9 72 (by decide +kernel) rfl, by decide, by decide, by decide, by decide +kernel⟩
theorem ys12_has : YS yX12_has cX12_has 2 (some .boolean) 2 := ⟨mw8 20 (by decide +kernel) rfl, mw1 10 (by decide +kernel) rfl, mw8 21 (by decide +kernel) rfl, by decide, by decide, by decide, by decide +kernel⟩
theorem ys12_isDigit : YS yX12_isDigit cX12_isDigit 1 (some .boolean) 1 := ⟨mw7 76 (by decide +kernel) rfl, mw1 10 (by decide +kernel) rfl, mw7 77 (by decide +kernel) rfl, by decide, by decide, by decide, by decide +kernel⟩
theorem ys12_isIn : YS yX12_isIn cX12_isIn 6 (some .boolean) 3 := ⟨mw7 139 (by decide +kernel) rfl, mw1 10 (by decide +kernel) rfl, mw7 140 (by decide +kernel) rfl, by decide, by decide, by decide, by decide +kernel⟩
theorem ys12_isLetter : YS yX12_isLetter cX12_isLetter 1 (some .boolean) 1 := ⟨mw7 71 (by decide +kernel) rfl, mw1 10 (by decide +kernel) rfl, mw7 72 (by decide +kernel) rfl, by decide, by decide, by decide, by decide +kernel⟩
theorem ys12_isNumber : YS yX12_isNumber cX12_isNumber 2 (some .boolean) 2 := ⟨mw8 226 (by decide +kernel) rfl, mw1 10 (by decide +kernel) rfl, mw8 227 (by decide +kernel) rfl, by decide, by decide, by decide, by decide +kernel⟩
theorem ys12_isSideAt : YS yX12_isSideAt cX12_isSideAt 1 (some .boolean) 1 := ⟨mw8 42 (by decide +kernel) rfl, mw1 10 (by decide +kernel) rfl, mw8 43 (by decide +kernel) rfl, by decide, by decide, by decide, by decide +kernel⟩
theorem ys12_partsOf : YS yX12_partsOf cX12_partsOf 2 (some .long) 2 := ⟨mw8 229 (by decide +kernel) rfl, mw1 10 (by decide +kernel) rfl, mw8 230 (by decide +kernel) rfl, by decide, by decide, by decide, by decide +kernel⟩
theorem ys12_sizeOf : YS yX12_sizeOf cX12_sizeOf 3 (some .int) 1 := ⟨mw8 23 (by decide +kernel) rfl, mw1 10 (by decide +kernel) rfl, mw8 24 (by decide +kernel) rfl, by decide, by decide, by decide, by decide +kernel⟩
theorem ys12_spelled : YS yX12_spelled cX12_spelled 8 (some .long) 6 := ⟨mw7 91 (by decide +kernel) rfl, mw1 10 (by decide +kernel) rfl, mw7 92 (by decide +kernel) rfl, by decide, by decide, by decide, by decide +kernel⟩
theorem ys12_stalkOf : YS yX12_stalkOf cX12_stalkOf 11 (some .int) 2 := ⟨mw9 3 (by decide +kernel) rfl, mw1 10 (by decide +kernel) rfl, mw9 4 (by decide +kernel) rfl, by decide, by decide, by decide, by decide +kernel⟩
theorem ys12_trims : YS yX12_trims cX12_trims 3 (some .long) 2 := ⟨mw7 31 (by decide +kernel) rfl, mw1 10 (by decide +kernel) rfl, mw7 32 (by decide +kernel) rfl, by decide, by decide, by decide, by decide +kernel⟩
theorem ys12_wholeOf : YS yX12_wholeOf cX12_wholeOf 4 (some .long) 1 := ⟨mw9 68 (by decide +kernel) rfl, mw1 10 (by decide +kernel) rfl, mw9 69 (by decide +kernel) rfl, by decide, by decide, by decide, by decide +kernel⟩
theorem ys1_parse : YS yX1_parse cX1_parse 3 none 2 := ⟨mw3 38 (by decide +kernel) rfl, mw1 13 (by decide +kernel) rfl, mw3 39 (by decide +kernel) rfl, by decide, by decide, by decide, by decide +kernel⟩
theorem ys1_parseBet : YS yX1_parseBet cX1_parseBet 4 none 2 := ⟨mw3 164 (by decide +kernel) rfl, mw1 13 (by decide +kernel) rfl, mw3 165 (by decide +kernel) rfl, by decide, by decide, by decide, by decide +kernel⟩
theorem ys1_parseHeap : YS yX1_parseHeap cX1_parseHeap 3 none 2 := ⟨mw3 156 (by decide +kernel) rfl, mw1 13 (by decide +kernel) rfl, mw3 157 (by decide +kernel) rfl, by decide, by decide, by decide, by decide +kernel⟩
theorem ys1_parseSprig : YS yX1_parseSprig cX1_parseSprig 4 none 2 := ⟨mw3 102 (by decide +kernel) rfl, mw1 13 (by decide +kernel) rfl, mw3 103 (by decide +kernel) rfl, by decide, by decide, by decide, by decide +kernel⟩
theorem ys1_takeGround : YS yX1_takeGround cX1_takeGround 3 (some .int) 3 := ⟨mw3 120 (by decide +kernel) rfl, mw1 13 (by decide +kernel) rfl, mw3 121 (by decide +kernel) rfl, by decide, by decide, by decide, by decide +kernel⟩
theorem ys2_compares : YS yX2_compares cX2_compares 2 (some .boolean) 2 := ⟨mw6 70 (by decide +kernel) rfl, mw1 9 (by decide +kernel) rfl, mw6 71 (by decide +kernel) rfl, by decide, by decide, by decide, by decide +kernel⟩
theorem ys2_holds : YS yX2_holds cX2_holds 4 (some .boolean) 4 := ⟨mw6 63 (by decide +kernel) rfl, mw1 9 (by decide +kernel) rfl, mw6 64 (by decide +kernel) rfl, by decide, by decide, by decide, by decide +kernel⟩
theorem ys3_age : YS yX3_age cX3_age 3 (some .int) 1 := ⟨mw5 123 (by decide +kernel) rfl, mw1 20 (by decide +kernel) rfl, mw5 124 (by decide +kernel) rfl, by decide, by decide, by decide, by decide +kernel⟩
theorem ys3_between : YS yX3_between cX3_between 4 (some .long) 2 := ⟨mw5 113 (by decide +kernel) rfl, mw1 20 (by decide +kernel) rfl, mw5 114 (by decide +kernel) rfl, by decide, by decide, by decide, by decide +kernel⟩
theorem ys3_branch : YS yX3_branch cX3_branch 8 (some .long) 2 := ⟨mw4 200 (by decide +kernel) rfl, mw1 20 (by decide +kernel) rfl, mw4 201 (by decide +kernel) rfl, by decide, by decide, by decide, by decide +kernel⟩
theorem ys3_canBe : YS yX3_canBe cX3_canBe 4 (some .boolean) 2 := ⟨mw5 102 (by decide +kernel) rfl, mw1 20 (by decide +kernel) rfl, mw5 103 (by decide +kernel) rfl, by decide, by decide, by decide, by decide +kernel⟩
theorem ys3_commonDivisor : YS yX3_commonDivisor cX3_commonDivisor 11 (some .long) 2 := ⟨mw4 216 (by decide +kernel) rfl, mw1 20 (by decide +kernel) rfl, mw4 217 (by decide +kernel) rfl, by decide, by decide, by decide, by decide +kernel⟩
theorem ys3_isWhole : YS yX3_isWhole cX3_isWhole 2 (some .boolean) 1 := ⟨mw5 127 (by decide +kernel) rfl, mw1 20 (by decide +kernel) rfl, mw5 128 (by decide +kernel) rfl, by decide, by decide, by decide, by decide +kernel⟩
theorem ys3_nextAbove : YS yX3_nextAbove cX3_nextAbove 8 (some .long) 2 := ⟨mw5 116 (by decide +kernel) rfl, mw1 20 (by decide +kernel) rfl, mw5 117 (by decide +kernel) rfl, by decide, by decide, by decide, by decide +kernel⟩
theorem ys3_of : YS yX3_of cX3_of 2 (some .long) 2 := ⟨mw5 107 (by decide +kernel) rfl, mw1 20 (by decide +kernel) rfl, mw5 108 (by decide +kernel) rfl, by decide, by decide, by decide, by decide +kernel⟩
theorem ys3_stalkColour : YS yX3_stalkColour cX3_stalkColour 13 (some .int) 2 := ⟨mw5 142 (by decide +kernel) rfl, mw1 20 (by decide +kernel) rfl, mw5 143 (by decide +kernel) rfl, by decide, by decide, by decide, by decide +kernel⟩
theorem ys4_decides : YS yX4_decides cX4_decides 5 (some .boolean) 4 := ⟨mw5 34 (by decide +kernel) rfl, mw1 6 (by decide +kernel) rfl, mw5 35 (by decide +kernel) rfl, by decide, by decide, by decide, by decide +kernel⟩
theorem ys4_isOdd : YS yX4_isOdd cX4_isOdd 2 (some .boolean) 2 := ⟨mw5 30 (by decide +kernel) rfl, mw1 6 (by decide +kernel) rfl, mw5 31 (by decide +kernel) rfl, by decide, by decide, by decide, by decide +kernel⟩
theorem ys4_settled : YS yX4_settled cX4_settled 11 (some .long) 4 := ⟨mw5 18 (by decide +kernel) rfl, mw1 6 (by decide +kernel) rfl, mw5 19 (by decide +kernel) rfl, by decide, by decide, by decide, by decide +kernel⟩
theorem ys4_winsBeginning : YS yX4_winsBeginning cX4_winsBeginning 5 (some .boolean) 2 := ⟨mw5 13 (by decide +kernel) rfl, mw1 6 (by decide +kernel) rfl, mw5 14 (by decide +kernel) rfl, by decide, by decide, by decide, by decide +kernel⟩
theorem ys4_wonBy : YS yX4_wonBy cX4_wonBy 7 (some .boolean) 5 := ⟨mw5 56 (by decide +kernel) rfl, mw1 6 (by decide +kernel) rfl, mw5 57 (by decide +kernel) rfl, by decide, by decide, by decide, by decide +kernel⟩
theorem ys5_copy : YS yX5_copy cX5_copy 3 none 2 := ⟨mw4 32 (by decide +kernel) rfl, mw1 5 (by decide +kernel) rfl, mw4 33 (by decide +kernel) rfl, by decide, by decide, by decide, by decide +kernel⟩
theorem ys5_isBlock : YS yX5_isBlock cX5_isBlock 1 (some .boolean) 1 := ⟨mw3 232 (by decide +kernel) rfl, mw1 5 (by decide +kernel) rfl, mw3 233 (by decide +kernel) rfl, by decide, by decide, by decide, by decide +kernel⟩
theorem ys6_kindHere : YS yX6_kindHere cX6_kindHere 1 (some .int) 1 := ⟨mw3 221 (by decide +kernel) rfl, mw1 18 (by decide +kernel) rfl, mw3 222 (by decide +kernel) rfl, by decide, by decide, by decide, by decide +kernel⟩
theorem ys6_parse : YS yX6_parse cX6_parse 3 none 2 := ⟨mw3 194 (by decide +kernel) rfl, mw1 18 (by decide +kernel) rfl, mw3 195 (by decide +kernel) rfl, by decide, by decide, by decide, by decide +kernel⟩
theorem ys6_parseDeed : YS yX6_parseDeed cX6_parseDeed 5 none 4 := ⟨mw3 235 (by decide +kernel) rfl, mw1 18 (by decide +kernel) rfl, mw3 236 (by decide +kernel) rfl, by decide, by decide, by decide, by decide +kernel⟩
theorem ys6_parseEnd : YS yX6_parseEnd cX6_parseEnd 2 none 2 := ⟨mw3 204 (by decide +kernel) rfl, mw1 18 (by decide +kernel) rfl, mw3 205 (by decide +kernel) rfl, by decide, by decide, by decide, by decide +kernel⟩
theorem ys6_parseGrow : YS yX6_parseGrow cX6_parseGrow 4 none 2 := ⟨mw4 13 (by decide +kernel) rfl, mw1 18 (by decide +kernel) rfl, mw4 14 (by decide +kernel) rfl, by decide, by decide, by decide, by decide +kernel⟩
theorem ys6_parseLess : YS yX6_parseLess cX6_parseLess 3 none 2 := ⟨mw4 10 (by decide +kernel) rfl, mw1 18 (by decide +kernel) rfl, mw4 11 (by decide +kernel) rfl, by decide, by decide, by decide, by decide +kernel⟩
theorem ys6_parseStep : YS yX6_parseStep cX6_parseStep 3 none 2 := ⟨mw3 218 (by decide +kernel) rfl, mw1 18 (by decide +kernel) rfl, mw3 219 (by decide +kernel) rfl, by decide, by decide, by decide, by decide +kernel⟩
theorem ys6_parseWhen : YS yX6_parseWhen cX6_parseWhen 5 none 2 := ⟨mw4 18 (by decide +kernel) rfl, mw1 18 (by decide +kernel) rfl, mw4 19 (by decide +kernel) rfl, by decide, by decide, by decide, by decide +kernel⟩
theorem ys6_takeComparison : YS yX6_takeComparison cX6_takeComparison 2 (some .int) 1 := ⟨mw4 28 (by decide +kernel) rfl, mw1 18 (by decide +kernel) rfl, mw4 29 (by decide +kernel) rfl, by decide, by decide, by decide, by decide +kernel⟩
theorem ys6_testHere : YS yX6_testHere cX6_testHere 1 (some .int) 1 := ⟨mw4 21 (by decide +kernel) rfl, mw1 18 (by decide +kernel) rfl, mw4 22 (by decide +kernel) rfl, by decide, by decide, by decide, by decide +kernel⟩
theorem ys7_leavesToLuck : YS yX7_leavesToLuck cX7_leavesToLuck 2 (some .boolean) 1 := ⟨mw5 230 (by decide +kernel) rfl, mw1 8 (by decide +kernel) rfl, mw5 231 (by decide +kernel) rfl, by decide, by decide, by decide, by decide +kernel⟩
theorem ys7_nextOfSize : YS yX7_nextOfSize cX7_nextOfSize 3 (some .int) 1 := ⟨mw5 217 (by decide +kernel) rfl, mw1 8 (by decide +kernel) rfl, mw5 218 (by decide +kernel) rfl, by decide, by decide, by decide, by decide +kernel⟩
theorem ys8_isBlank : YS yX8_isBlank cX8_isBlank 1 (some .boolean) 1 := ⟨mw3 22 (by decide +kernel) rfl, mw1 3 (by decide +kernel) rfl, mw3 23 (by decide +kernel) rfl, by decide, by decide, by decide, by decide +kernel⟩
theorem ys8_isDigit : YS yX8_isDigit cX8_isDigit 1 (some .boolean) 1 := ⟨mw3 28 (by decide +kernel) rfl, mw1 3 (by decide +kernel) rfl, mw3 29 (by decide +kernel) rfl, by decide, by decide, by decide, by decide +kernel⟩
theorem ys8_isLetter : YS yX8_isLetter cX8_isLetter 1 (some .boolean) 1 := ⟨mw3 25 (by decide +kernel) rfl, mw1 3 (by decide +kernel) rfl, mw3 26 (by decide +kernel) rfl, by decide, by decide, by decide, by decide +kernel⟩
theorem ys8_isSign : YS yX8_isSign cX8_isSign 1 (some .boolean) 1 := ⟨mw3 35 (by decide +kernel) rfl, mw1 3 (by decide +kernel) rfl, mw3 36 (by decide +kernel) rfl, by decide, by decide, by decide, by decide +kernel⟩
theorem ys9_fitted : YS yX9_fitted cX9_fitted 3 (some .long) 2 := ⟨mw2 196 (by decide +kernel) rfl, mw1 2 (by decide +kernel) rfl, mw2 197 (by decide +kernel) rfl, by decide, by decide, by decide, by decide +kernel⟩
theorem ys9_isSort : YS yX9_isSort cX9_isSort 1 (some .boolean) 1 := ⟨mw2 159 (by decide +kernel) rfl, mw1 2 (by decide +kernel) rfl, mw2 160 (by decide +kernel) rfl, by decide, by decide, by decide, by decide +kernel⟩
theorem ys9_isTray : YS yX9_isTray cX9_isTray 1 (some .boolean) 1 := ⟨mw2 156 (by decide +kernel) rfl, mw1 2 (by decide +kernel) rfl, mw2 157 (by decide +kernel) rfl, by decide, by decide, by decide, by decide +kernel⟩
theorem ysJ0_checkIndex_df160 : YS yJ0_checkIndex_df160 cJ0_checkIndex_df160 2 none 2 := ⟨mw3 75 (by decide +kernel) rfl, mw1 14 (by decide +kernel) rfl, mw3 76 (by decide +kernel) rfl, by decide, by decide, by decide, by decide +kernel⟩
theorem ysJ13_compare_74951 : YS yJ13_compare_74951 cJ13_compare_74951 4 (some .int) 2 := ⟨mw5 6 (by decide +kernel) rfl, mw1 21 (by decide +kernel) rfl, mw5 7 (by decide +kernel) rfl, by decide, by decide, by decide, by decide +kernel⟩
theorem ysJ13_numberOfTrailingZeros_95d88 : YS yJ13_numberOfTrailingZeros_95d88 cJ13_numberOfTrailingZeros_95d88 3 (some .int) 1 := ⟨mw5 131 (by decide +kernel) rfl, mw1 21 (by decide +kernel) rfl, mw5 132 (by decide +kernel) rfl, by decide, by decide, by decide, by decide +kernel⟩
theorem ysJ1_charAt_3b067 : YS yJ1_charAt_3b067 cJ1_charAt_3b067 2 (some .char) 2 := ⟨mw3 72 (by decide +kernel) rfl, mw1 15 (by decide +kernel) rfl, mw3 73 (by decide +kernel) rfl, by decide, by decide, by decide, by decide +kernel⟩
theorem ysJ3_checkIndex_8e157 : YS yJ3_checkIndex_8e157 cJ3_checkIndex_8e157 3 (some .int) 3 := ⟨mw3 80 (by decide +kernel) rfl, mw1 16 (by decide +kernel) rfl, mw3 81 (by decide +kernel) rfl, by decide, by decide, by decide, by decide +kernel⟩
theorem ysJ6_bitCount_0f7a4 : YS yJ6_bitCount_0f7a4 cJ6_bitCount_0f7a4 1 (some .int) 1 := ⟨mw4 64 (by decide +kernel) rfl, mw1 19 (by decide +kernel) rfl, mw4 65 (by decide +kernel) rfl, by decide, by decide, by decide, by decide +kernel⟩
theorem ysJ6_compare_7cf53 : YS yJ6_compare_7cf53 cJ6_compare_7cf53 2 (some .int) 2 := ⟨mw6 74 (by decide +kernel) rfl, mw1 19 (by decide +kernel) rfl, mw6 75 (by decide +kernel) rfl, by decide, by decide, by decide, by decide +kernel⟩
theorem ysJ6_numberOfTrailingZeros_0f7a4 : YS yJ6_numberOfTrailingZeros_0f7a4 cJ6_numberOfTrailingZeros_0f7a4 2 (some .int) 1 := ⟨mw5 134 (by decide +kernel) rfl, mw1 19 (by decide +kernel) rfl, mw5 135 (by decide +kernel) rfl, by decide, by decide, by decide, by decide +kernel⟩
theorem ysJ9_abs_067f4 : YS yJ9_abs_067f4 cJ9_abs_067f4 2 (some .long) 1 := ⟨mw4 213 (by decide +kernel) rfl, mw1 12 (by decide +kernel) rfl, mw4 214 (by decide +kernel) rfl, by decide, by decide, by decide, by decide +kernel⟩
theorem ysJ9_floorDiv_f86c9 : YS yJ9_floorDiv_f86c9 cJ9_floorDiv_f86c9 6 (some .long) 2 := ⟨mw8 232 (by decide +kernel) rfl, mw1 12 (by decide +kernel) rfl, mw8 233 (by decide +kernel) rfl, by decide, by decide, by decide, by decide +kernel⟩
theorem ysJ9_max_7cf53 : YS yJ9_max_7cf53 cJ9_max_7cf53 2 (some .int) 2 := ⟨mw3 11 (by decide +kernel) rfl, mw1 12 (by decide +kernel) rfl, mw3 12 (by decide +kernel) rfl, by decide, by decide, by decide, by decide +kernel⟩
theorem ysJ9_min_7cf53 : YS yJ9_min_7cf53 cJ9_min_7cf53 2 (some .int) 2 := ⟨mw3 8 (by decide +kernel) rfl, mw1 12 (by decide +kernel) rfl, mw3 9 (by decide +kernel) rfl, by decide, by decide, by decide, by decide +kernel⟩
theorem mlJ0_335 : Cond.methodLink RJ0 335 yJ0_coder_7d493 ∈ LW := mw3 57 (by decide +kernel) rfl
theorem mlJ0_492 : Cond.methodLink RJ0 492 yJ0_isLatin1_aae02 ∈ LW := mw3 67 (by decide +kernel) rfl
theorem mlJ0_495 : Cond.methodLink RJ0 495 yJ1_charAt_3b067 ∈ LW := mw3 71 (by decide +kernel) rfl
theorem mlJ0_1059 : Cond.methodLink RJ0 1059 yJ3_checkIndex_8e157 ∈ LW := mw3 79 (by decide +kernel) rfl
theorem mlJ1_9 : Cond.methodLink RJ1 9 yJ0_checkIndex_df160 ∈ LW := mw3 74 (by decide +kernel) rfl
theorem mlJ13_311 : Cond.methodLink RJ13 311 yJ6_numberOfTrailingZeros_0f7a4 ∈ LW := mw5 133 (by decide +kernel) rfl
theorem mlX0_56 : Cond.methodLink RX0 56 yX0_hasSprig ∈ LW := mw3 134 (by decide +kernel) rfl
theorem mlX0_64 : Cond.methodLink RX0 64 yX0_isStanding ∈ LW := mw4 58 (by decide +kernel) rfl
theorem mlX0_67 : Cond.methodLink RX0 67 yX0_hasBet ∈ LW := mw4 92 (by decide +kernel) rfl
theorem mlX0_70 : Cond.methodLink RX0 70 yX0_hasHeap ∈ LW := mw4 137 (by decide +kernel) rfl
theorem mlX0_73 : Cond.methodLink RX0 73 yX0_fits ∈ LW := mw4 167 (by decide +kernel) rfl
theorem mlX0_76 : Cond.methodLink RX0 76 yX0_branchSet ∈ LW := mw4 110 (by decide +kernel) rfl
theorem mlX0_80 : Cond.methodLink RX0 80 yJ6_bitCount_0f7a4 ∈ LW := mw4 111 (by decide +kernel) rfl
theorem mlX0_85 : Cond.methodLink RX0 85 yX0_mayTake ∈ LW := mw4 124 (by decide +kernel) rfl
theorem mlX0_88 : Cond.methodLink RX0 88 yX0_gain ∈ LW := mw4 125 (by decide +kernel) rfl
theorem mlX0_92 : Cond.methodLink RX0 92 yX0_mayLessen ∈ LW := mw4 142 (by decide +kernel) rfl
theorem mlX0_95 : Cond.methodLink RX0 95 yX0_hasWorth ∈ LW := mw4 226 (by decide +kernel) rfl
theorem mlX0_98 : Cond.methodLink RX0 98 yX0_worthWith ∈ LW := mw4 227 (by decide +kernel) rfl
theorem mlX0_102 : Cond.methodLink RX0 102 yX3_branch ∈ LW := mw4 199 (by decide +kernel) rfl
theorem mlX0_108 : Cond.methodLink RX0 108 yX0_nimWith ∈ LW := mw5 0 (by decide +kernel) rfl
theorem mlX1_9 : Cond.methodLink RX1 9 yX0_clear ∈ LW := mw3 40 (by decide +kernel) rfl
theorem mlX1_14 : Cond.methodLink RX1 14 yX8_goesOn ∈ LW := mw3 44 (by decide +kernel) rfl
theorem mlX1_22 : Cond.methodLink RX1 22 yX8_isWord ∈ LW := mw3 49 (by decide +kernel) rfl
theorem mlX1_26 : Cond.methodLink RX1 26 yX1_parseSprig ∈ LW := mw3 101 (by decide +kernel) rfl
theorem mlX1_34 : Cond.methodLink RX1 34 yX1_parseHeap ∈ LW := mw3 155 (by decide +kernel) rfl
theorem mlX1_39 : Cond.methodLink RX1 39 yX1_parseBet ∈ LW := mw3 163 (by decide +kernel) rfl
theorem mlX1_42 : Cond.methodLink RX1 42 yX8_refuse ∈ LW := mw3 104 (by decide +kernel) rfl
theorem mlX1_50 : Cond.methodLink RX1 50 yX8_step ∈ LW := mw3 108 (by decide +kernel) rfl
theorem mlX1_53 : Cond.methodLink RX1 53 yX8_takeColour ∈ LW := mw3 109 (by decide +kernel) rfl
theorem mlX1_59 : Cond.methodLink RX1 59 yX1_takeGround ∈ LW := mw3 119 (by decide +kernel) rfl
theorem mlX1_63 : Cond.methodLink RX1 63 yX8_takeClose ∈ LW := mw3 142 (by decide +kernel) rfl
theorem mlX1_69 : Cond.methodLink RX1 69 yX0_addSprig ∈ LW := mw3 150 (by decide +kernel) rfl
theorem mlX1_73 : Cond.methodLink RX1 73 yX8_isNumberBelow ∈ LW := mw3 122 (by decide +kernel) rfl
theorem mlX1_77 : Cond.methodLink RX1 77 yX8_valueHere ∈ LW := mw3 126 (by decide +kernel) rfl
theorem mlX1_80 : Cond.methodLink RX1 80 yX0_fits ∈ LW := mw3 130 (by decide +kernel) rfl
theorem mlX1_84 : Cond.methodLink RX1 84 yX8_takeNumber ∈ LW := mw3 138 (by decide +kernel) rfl
theorem mlX1_91 : Cond.methodLink RX1 91 yX0_addHeap ∈ LW := mw3 158 (by decide +kernel) rfl
theorem mlX1_97 : Cond.methodLink RX1 97 yX0_addBet ∈ LW := mw3 166 (by decide +kernel) rfl
theorem mlX10_23 : Cond.methodLink RX10 23 yJ6_bitCount_0f7a4 ∈ LW := mw5 163 (by decide +kernel) rfl
theorem mlX10_33 : Cond.methodLink RX10 33 yX0_hasWorth ∈ LW := mw5 165 (by decide +kernel) rfl
theorem mlX10_39 : Cond.methodLink RX10 39 yX10_colourAll ∈ LW := mw5 170 (by decide +kernel) rfl
theorem mlX10_46 : Cond.methodLink RX10 46 yX0_worthWith ∈ LW := mw5 173 (by decide +kernel) rfl
theorem mlX10_50 : Cond.methodLink RX10 50 yX10_count ∈ LW := mw5 174 (by decide +kernel) rfl
theorem mlX10_57 : Cond.methodLink RX10 57 yJ9_max_7cf53 ∈ LW := mw5 195 (by decide +kernel) rfl
theorem mlX11_106 : Cond.methodLink RX11 106 yX9_isTray ∈ LW := mw2 155 (by decide +kernel) rfl
theorem mlX11_110 : Cond.methodLink RX11 110 yX9_isSort ∈ LW := mw2 158 (by decide +kernel) rfl
theorem mlX11_113 : Cond.methodLink RX11 113 yX11_no ∈ LW := mw2 161 (by decide +kernel) rfl
theorem mlX11_116 : Cond.methodLink RX11 116 yX9_lay ∈ LW := mw2 165 (by decide +kernel) rfl
theorem mlX11_120 : Cond.methodLink RX11 120 yX11_yes ∈ LW := mw2 170 (by decide +kernel) rfl
theorem mlX11_124 : Cond.methodLink RX11 124 yX11_placeStatus ∈ LW := mw2 178 (by decide +kernel) rfl
theorem mlX11_128 : Cond.methodLink RX11 128 yX9_put ∈ LW := mw2 190 (by decide +kernel) rfl
theorem mlX11_132 : Cond.methodLink RX11 132 yX11_none ∈ LW := mw2 202 (by decide +kernel) rfl
theorem mlX11_136 : Cond.methodLink RX11 136 yX9_at ∈ LW := mw2 206 (by decide +kernel) rfl
theorem mlX11_140 : Cond.methodLink RX11 140 yX9_isMissing ∈ LW := mw2 182 (by decide +kernel) rfl
theorem mlX11_143 : Cond.methodLink RX11 143 yX9_sortOf ∈ LW := mw2 215 (by decide +kernel) rfl
theorem mlX11_146 : Cond.methodLink RX11 146 yX9_holds ∈ LW := mw2 186 (by decide +kernel) rfl
theorem mlX11_150 : Cond.methodLink RX11 150 yX9_move ∈ LW := mw2 219 (by decide +kernel) rfl
theorem mlX11_154 : Cond.methodLink RX11 154 yX8_hasRoom ∈ LW := mw2 230 (by decide +kernel) rfl
theorem mlX11_157 : Cond.methodLink RX11 157 yX8_append ∈ LW := mw2 234 (by decide +kernel) rfl
theorem mlX11_164 : Cond.methodLink RX11 164 yX8_open ∈ LW := mw3 3 (by decide +kernel) rfl
theorem mlX11_167 : Cond.methodLink RX11 167 yX1_parse ∈ LW := mw3 37 (by decide +kernel) rfl
theorem mlX11_173 : Cond.methodLink RX11 173 yX11_closeText ∈ LW := mw3 170 (by decide +kernel) rfl
theorem mlX11_176 : Cond.methodLink RX11 176 yX0_copy ∈ LW := mw3 178 (by decide +kernel) rfl
theorem mlX11_180 : Cond.methodLink RX11 180 yX5_forget ∈ LW := mw3 181 (by decide +kernel) rfl
theorem mlX11_186 : Cond.methodLink RX11 186 yX11_told ∈ LW := mw3 185 (by decide +kernel) rfl
theorem mlX11_189 : Cond.methodLink RX11 189 yX6_parse ∈ LW := mw3 193 (by decide +kernel) rfl
theorem mlX11_194 : Cond.methodLink RX11 194 yX5_copy ∈ LW := mw4 31 (by decide +kernel) rfl
theorem mlX11_218 : Cond.methodLink RX11 218 yX0_hasSprig ∈ LW := mw4 46 (by decide +kernel) rfl
theorem mlX11_221 : Cond.methodLink RX11 221 yX0_isStanding ∈ LW := mw4 47 (by decide +kernel) rfl
theorem mlX11_231 : Cond.methodLink RX11 231 yX0_rightOn ∈ LW := mw4 54 (by decide +kernel) rfl
theorem mlX11_234 : Cond.methodLink RX11 234 yX0_branchSet ∈ LW := mw4 59 (by decide +kernel) rfl
theorem mlX11_237 : Cond.methodLink RX11 237 yJ6_bitCount_0f7a4 ∈ LW := mw4 63 (by decide +kernel) rfl
theorem mlX11_242 : Cond.methodLink RX11 242 yX0_hasHeap ∈ LW := mw4 73 (by decide +kernel) rfl
theorem mlX11_248 : Cond.methodLink RX11 248 yX0_hasBet ∈ LW := mw4 81 (by decide +kernel) rfl
theorem mlX11_251 : Cond.methodLink RX11 251 yX11_isSide ∈ LW := mw4 85 (by decide +kernel) rfl
theorem mlX11_254 : Cond.methodLink RX11 254 yX0_betFor ∈ LW := mw4 88 (by decide +kernel) rfl
theorem mlX11_259 : Cond.methodLink RX11 259 yX0_mayCut ∈ LW := mw4 102 (by decide +kernel) rfl
theorem mlX11_263 : Cond.methodLink RX11 263 yX0_shear ∈ LW := mw4 106 (by decide +kernel) rfl
theorem mlX11_266 : Cond.methodLink RX11 266 yX0_mayTake ∈ LW := mw4 116 (by decide +kernel) rfl
theorem mlX11_269 : Cond.methodLink RX11 269 yX0_winBet ∈ LW := mw4 120 (by decide +kernel) rfl
theorem mlX11_273 : Cond.methodLink RX11 273 yX0_mayLessen ∈ LW := mw4 133 (by decide +kernel) rfl
theorem mlX11_276 : Cond.methodLink RX11 276 yX0_lessen ∈ LW := mw4 138 (by decide +kernel) rfl
theorem mlX11_279 : Cond.methodLink RX11 279 yX0_nimWith ∈ LW := mw4 143 (by decide +kernel) rfl
theorem mlX11_282 : Cond.methodLink RX11 282 yX0_maySpend ∈ LW := mw4 151 (by decide +kernel) rfl
theorem mlX11_285 : Cond.methodLink RX11 285 yX0_spendOne ∈ LW := mw4 155 (by decide +kernel) rfl
theorem mlX11_288 : Cond.methodLink RX11 288 yX0_mayGrow ∈ LW := mw4 163 (by decide +kernel) rfl
theorem mlX11_291 : Cond.methodLink RX11 291 yX0_addSprig ∈ LW := mw4 168 (by decide +kernel) rfl
theorem mlX11_294 : Cond.methodLink RX11 294 yX0_hasWorth ∈ LW := mw4 173 (by decide +kernel) rfl
theorem mlX11_297 : Cond.methodLink RX11 297 yX0_addHeap ∈ LW := mw4 181 (by decide +kernel) rfl
theorem mlX11_300 : Cond.methodLink RX11 300 yX0_canBeBet ∈ LW := mw4 186 (by decide +kernel) rfl
theorem mlX11_303 : Cond.methodLink RX11 303 yX0_addBet ∈ LW := mw4 189 (by decide +kernel) rfl
theorem mlX11_306 : Cond.methodLink RX11 306 yX0_worthWith ∈ LW := mw4 194 (by decide +kernel) rfl
theorem mlX11_310 : Cond.methodLink RX11 310 yX11_tellNumber ∈ LW := mw4 203 (by decide +kernel) rfl
theorem mlX11_314 : Cond.methodLink RX11 314 yX0_branchWorth ∈ LW := mw4 222 (by decide +kernel) rfl
theorem mlX11_317 : Cond.methodLink RX11 317 yX0_branchNim ∈ LW := mw4 236 (by decide +kernel) rfl
theorem mlX11_320 : Cond.methodLink RX11 320 yJ13_compare_74951 ∈ LW := mw5 5 (by decide +kernel) rfl
theorem mlX11_326 : Cond.methodLink RX11 326 yX4_winsBeginning ∈ LW := mw5 12 (by decide +kernel) rfl
theorem mlX11_330 : Cond.methodLink RX11 330 yX11_other ∈ LW := mw5 40 (by decide +kernel) rfl
theorem mlX11_333 : Cond.methodLink RX11 333 yX4_look ∈ LW := mw5 45 (by decide +kernel) rfl
theorem mlX11_352 : Cond.methodLink RX11 352 yX4_settled ∈ LW := mw5 86 (by decide +kernel) rfl
theorem mlX11_356 : Cond.methodLink RX11 356 yX0_hottestBut ∈ LW := mw5 91 (by decide +kernel) rfl
theorem mlX11_361 : Cond.methodLink RX11 361 yX11_tellFraction ∈ LW := mw4 208 (by decide +kernel) rfl
theorem mlX11_365 : Cond.methodLink RX11 365 yX3_canBe ∈ LW := mw5 101 (by decide +kernel) rfl
theorem mlX11_370 : Cond.methodLink RX11 370 yX3_of ∈ LW := mw5 111 (by decide +kernel) rfl
theorem mlX11_373 : Cond.methodLink RX11 373 yX3_between ∈ LW := mw5 112 (by decide +kernel) rfl
theorem mlX11_377 : Cond.methodLink RX11 377 yX3_age ∈ LW := mw5 122 (by decide +kernel) rfl
theorem mlX11_381 : Cond.methodLink RX11 381 yX3_stalkColour ∈ LW := mw5 141 (by decide +kernel) rfl
theorem mlX11_385 : Cond.methodLink RX11 385 yX3_branch ∈ LW := mw5 150 (by decide +kernel) rfl
theorem mlX11_389 : Cond.methodLink RX11 389 yX11_findWays ∈ LW := mw5 155 (by decide +kernel) rfl
theorem mlX11_396 : Cond.methodLink RX11 396 yX11_isIn ∈ LW := mw5 186 (by decide +kernel) rfl
theorem mlX11_402 : Cond.methodLink RX11 402 yX10_bestParting ∈ LW := mw5 191 (by decide +kernel) rfl
theorem mlX11_405 : Cond.methodLink RX11 405 yX7_balancing ∈ LW := mw5 200 (by decide +kernel) rfl
theorem mlX11_409 : Cond.methodLink RX11 409 yX7_leavesToLuck ∈ LW := mw5 229 (by decide +kernel) rfl
theorem mlX11_413 : Cond.methodLink RX11 413 yX7_oddsOfLeft ∈ LW := mw5 235 (by decide +kernel) rfl
theorem mlX11_422 : Cond.methodLink RX11 422 yX2_run ∈ LW := mw6 16 (by decide +kernel) rfl
theorem mlX11_442 : Cond.methodLink RX11 442 yJ9_abs_067f4 ∈ LW := mw4 212 (by decide +kernel) rfl
theorem mlX11_448 : Cond.methodLink RX11 448 yX3_commonDivisor ∈ LW := mw4 215 (by decide +kernel) rfl
theorem mlX11_457 : Cond.methodLink RX11 457 yX8_empty ∈ LW := mw3 174 (by decide +kernel) rfl
theorem mlX11_460 : Cond.methodLink RX11 460 yX10_canBe ∈ LW := mw5 159 (by decide +kernel) rfl
theorem mlX11_462 : Cond.methodLink RX11 462 yX10_find ∈ LW := mw5 166 (by decide +kernel) rfl
theorem mlX12_62 : Cond.methodLink RX12 62 yJ9_abs_067f4 ∈ LW := mw8 77 (by decide +kernel) rfl
theorem mlX12_68 : Cond.methodLink RX12 68 yX12_no ∈ LW := mw7 14 (by decide +kernel) rfl
theorem mlX12_72 : Cond.methodLink RX12 72 yX12_trayed ∈ LW := mw7 26 (by decide +kernel) rfl
theorem mlX12_76 : Cond.methodLink RX12 76 yX12_placed ∈ LW := mw7 22 (by decide +kernel) rfl
theorem mlX12_80 : Cond.methodLink RX12 80 yX12_trims ∈ LW := mw7 30 (by decide +kernel) rfl
theorem mlX12_88 : Cond.methodLink RX12 88 yX12_isIn ∈ LW := mw7 138 (by decide +kernel) rfl
theorem mlX12_92 : Cond.methodLink RX12 92 yX12_has ∈ LW := mw8 19 (by decide +kernel) rfl
theorem mlX12_105 : Cond.methodLink RX12 105 yX12_look2 ∈ LW := mw7 66 (by decide +kernel) rfl
theorem mlX12_111 : Cond.methodLink RX12 111 yX12_isLetter ∈ LW := mw7 70 (by decide +kernel) rfl
theorem mlX12_121 : Cond.methodLink RX12 121 yX12_isDigit ∈ LW := mw7 75 (by decide +kernel) rfl
theorem mlX12_127 : Cond.methodLink RX12 127 yX12_isSignByte ∈ LW := mw7 78 (by decide +kernel) rfl
theorem mlX12_130 : Cond.methodLink RX12 130 yX12_spelled ∈ LW := mw7 90 (by decide +kernel) rfl
theorem mlX12_134 : Cond.methodLink RX12 134 yX12_isWord ∈ LW := mw7 93 (by decide +kernel) rfl
theorem mlX12_144 : Cond.methodLink RX12 144 yX12_fail ∈ LW := mw7 105 (by decide +kernel) rfl
theorem mlX12_148 : Cond.methodLink RX12 148 yX12_advance ∈ LW := mw7 62 (by decide +kernel) rfl
theorem mlX12_151 : Cond.methodLink RX12 151 yX12_amiss ∈ LW := mw7 113 (by decide +kernel) rfl
theorem mlX12_154 : Cond.methodLink RX12 154 yX12_mayBe ∈ LW := mw7 134 (by decide +kernel) rfl
theorem mlX12_157 : Cond.methodLink RX12 157 yX12_colourWord ∈ LW := mw7 121 (by decide +kernel) rfl
theorem mlX12_161 : Cond.methodLink RX12 161 yX12_must ∈ LW := mw7 109 (by decide +kernel) rfl
theorem mlX12_165 : Cond.methodLink RX12 165 yJ9_max_7cf53 ∈ LW := mw7 125 (by decide +kernel) rfl
theorem mlX12_168 : Cond.methodLink RX12 168 yX12_sideWord ∈ LW := mw7 205 (by decide +kernel) rfl
theorem mlX12_174 : Cond.methodLink RX12 174 yX12_lay ∈ LW := mw7 46 (by decide +kernel) rfl
theorem mlX12_178 : Cond.methodLink RX12 178 yX12_another ∈ LW := mw7 101 (by decide +kernel) rfl
theorem mlX12_181 : Cond.methodLink RX12 181 yX12_readColour ∈ LW := mw7 117 (by decide +kernel) rfl
theorem mlX12_184 : Cond.methodLink RX12 184 yX12_isOn ∈ LW := mw7 126 (by decide +kernel) rfl
theorem mlX12_188 : Cond.methodLink RX12 188 yX12_perhaps ∈ LW := mw7 130 (by decide +kernel) rfl
theorem mlX12_192 : Cond.methodLink RX12 192 yX12_mayGrow ∈ LW := mw7 141 (by decide +kernel) rfl
theorem mlX12_196 : Cond.methodLink RX12 196 yX12_count ∈ LW := mw7 145 (by decide +kernel) rfl
theorem mlX12_199 : Cond.methodLink RX12 199 yX12_grows ∈ LW := mw7 149 (by decide +kernel) rfl
theorem mlX12_203 : Cond.methodLink RX12 203 yX12_offers ∈ LW := mw7 169 (by decide +kernel) rfl
theorem mlX12_206 : Cond.methodLink RX12 206 yX12_isSprig ∈ LW := mw7 86 (by decide +kernel) rfl
theorem mlX12_209 : Cond.methodLink RX12 209 yX12_readSprig ∈ LW := mw7 97 (by decide +kernel) rfl
theorem mlX12_212 : Cond.methodLink RX12 212 yX12_isHeap ∈ LW := mw7 153 (by decide +kernel) rfl
theorem mlX12_215 : Cond.methodLink RX12 215 yX12_readHeap ∈ LW := mw7 157 (by decide +kernel) rfl
theorem mlX12_218 : Cond.methodLink RX12 218 yX12_isBet ∈ LW := mw7 161 (by decide +kernel) rfl
theorem mlX12_221 : Cond.methodLink RX12 221 yX12_readBet ∈ LW := mw7 165 (by decide +kernel) rfl
theorem mlX12_224 : Cond.methodLink RX12 224 yX12_starts ∈ LW := mw7 58 (by decide +kernel) rfl
theorem mlX12_227 : Cond.methodLink RX12 227 yX12_readPart ∈ LW := mw7 82 (by decide +kernel) rfl
theorem mlX12_230 : Cond.methodLink RX12 230 yX12_isSign ∈ LW := mw7 173 (by decide +kernel) rfl
theorem mlX12_233 : Cond.methodLink RX12 233 yX12_isWell ∈ LW := mw7 177 (by decide +kernel) rfl
theorem mlX12_236 : Cond.methodLink RX12 236 yX12_copy ∈ LW := mw7 181 (by decide +kernel) rfl
theorem mlX12_239 : Cond.methodLink RX12 239 yX12_testWord ∈ LW := mw7 213 (by decide +kernel) rfl
theorem mlX12_242 : Cond.methodLink RX12 242 yX12_readSide ∈ LW := mw7 201 (by decide +kernel) rfl
theorem mlX12_245 : Cond.methodLink RX12 245 yX12_readTest ∈ LW := mw7 209 (by decide +kernel) rfl
theorem mlX12_248 : Cond.methodLink RX12 248 yX12_stepWord ∈ LW := mw7 193 (by decide +kernel) rfl
theorem mlX12_254 : Cond.methodLink RX12 254 yX12_readRest ∈ LW := mw7 197 (by decide +kernel) rfl
theorem mlX12_257 : Cond.methodLink RX12 257 yX12_isEnd ∈ LW := mw7 217 (by decide +kernel) rfl
theorem mlX12_260 : Cond.methodLink RX12 260 yX12_readStep ∈ LW := mw7 189 (by decide +kernel) rfl
theorem mlX12_265 : Cond.methodLink RX12 265 yX12_refuse ∈ LW := mw7 226 (by decide +kernel) rfl
theorem mlX12_268 : Cond.methodLink RX12 268 yX12_standing ∈ LW := mw7 230 (by decide +kernel) rfl
theorem mlX12_271 : Cond.methodLink RX12 271 yX12_taken ∈ LW := mw7 234 (by decide +kernel) rfl
theorem mlX12_274 : Cond.methodLink RX12 274 yX12_standsBut ∈ LW := mw8 15 (by decide +kernel) rfl
theorem mlX12_277 : Cond.methodLink RX12 277 yX12_sizeOf ∈ LW := mw8 22 (by decide +kernel) rfl
theorem mlX12_280 : Cond.methodLink RX12 280 yX12_isSprigAt ∈ LW := mw8 2 (by decide +kernel) rfl
theorem mlX12_285 : Cond.methodLink RX12 285 yX12_rightOn ∈ LW := mw8 7 (by decide +kernel) rfl
theorem mlX12_288 : Cond.methodLink RX12 288 yX12_fallsBy ∈ LW := mw8 11 (by decide +kernel) rfl
theorem mlX12_291 : Cond.methodLink RX12 291 yX12_isHeapAt ∈ LW := mw8 29 (by decide +kernel) rfl
theorem mlX12_294 : Cond.methodLink RX12 294 yX12_isBetAt ∈ LW := mw8 37 (by decide +kernel) rfl
theorem mlX12_297 : Cond.methodLink RX12 297 yX12_isSideAt ∈ LW := mw8 41 (by decide +kernel) rfl
theorem mlX12_300 : Cond.methodLink RX12 300 yX12_isTray ∈ LW := mw8 48 (by decide +kernel) rfl
theorem mlX12_303 : Cond.methodLink RX12 303 yX12_write ∈ LW := mw8 53 (by decide +kernel) rfl
theorem mlX12_309 : Cond.methodLink RX12 309 yX12_blueWorth ∈ LW := mw8 70 (by decide +kernel) rfl
theorem mlX12_318 : Cond.methodLink RX12 318 yX12_branchWorth ∈ LW := mw8 67 (by decide +kernel) rfl
theorem mlX12_321 : Cond.methodLink RX12 321 yX12_laysWorths ∈ LW := mw8 62 (by decide +kernel) rfl
theorem mlX12_324 : Cond.methodLink RX12 324 yX12_laysNow ∈ LW := mw8 58 (by decide +kernel) rfl
theorem mlX12_327 : Cond.methodLink RX12 327 yX12_fraction ∈ LW := mw8 73 (by decide +kernel) rfl
theorem mlX12_331 : Cond.methodLink RX12 331 yX12_whyNoBranch ∈ LW := mw8 82 (by decide +kernel) rfl
theorem mlX12_335 : Cond.methodLink RX12 335 yX12_may ∈ LW := mw8 106 (by decide +kernel) rfl
theorem mlX12_338 : Cond.methodLink RX12 338 yX12_cuts ∈ LW := mw8 102 (by decide +kernel) rfl
theorem mlX12_341 : Cond.methodLink RX12 341 yX12_gainBy ∈ LW := mw8 118 (by decide +kernel) rfl
theorem mlX12_344 : Cond.methodLink RX12 344 yX12_takes ∈ LW := mw8 114 (by decide +kernel) rfl
theorem mlX12_349 : Cond.methodLink RX12 349 yX12_lessens ∈ LW := mw8 127 (by decide +kernel) rfl
theorem mlX12_352 : Cond.methodLink RX12 352 yX12_spending ∈ LW := mw8 135 (by decide +kernel) rfl
theorem mlX12_357 : Cond.methodLink RX12 357 yX12_canGrow ∈ LW := mw8 144 (by decide +kernel) rfl
theorem mlX12_362 : Cond.methodLink RX12 362 yX12_heatOf ∈ LW := mw8 181 (by decide +kernel) rfl
theorem mlX12_368 : Cond.methodLink RX12 368 yX12_hottestBut ∈ LW := mw8 177 (by decide +kernel) rfl
theorem mlX12_371 : Cond.methodLink RX12 371 yX12_endsWith ∈ LW := mw8 173 (by decide +kernel) rfl
theorem mlX12_375 : Cond.methodLink RX12 375 yX12_winnerOf ∈ LW := mw8 169 (by decide +kernel) rfl
theorem mlX12_379 : Cond.methodLink RX12 379 yX12_winnerNow ∈ LW := mw8 165 (by decide +kernel) rfl
theorem mlX12_397 : Cond.methodLink RX12 397 yX12_counts ∈ LW := mw8 197 (by decide +kernel) rfl
theorem mlX12_401 : Cond.methodLink RX12 401 yX12_laysMoves ∈ LW := mw8 193 (by decide +kernel) rfl
theorem mlX12_404 : Cond.methodLink RX12 404 yX12_isNumber ∈ LW := mw8 225 (by decide +kernel) rfl
theorem mlX12_407 : Cond.methodLink RX12 407 yX12_partsOf ∈ LW := mw8 228 (by decide +kernel) rfl
theorem mlX12_411 : Cond.methodLink RX12 411 yJ9_floorDiv_f86c9 ∈ LW := mw8 231 (by decide +kernel) rfl
theorem mlX12_419 : Cond.methodLink RX12 419 yX12_stalkOf ∈ LW := mw9 2 (by decide +kernel) rfl
theorem mlX12_423 : Cond.methodLink RX12 423 yX12_numberOf ∈ LW := mw9 11 (by decide +kernel) rfl
theorem mlX12_432 : Cond.methodLink RX12 432 yX12_isSet ∈ LW := mw9 23 (by decide +kernel) rfl
theorem mlX12_435 : Cond.methodLink RX12 435 yX12_laysWays ∈ LW := mw9 27 (by decide +kernel) rfl
theorem mlX12_439 : Cond.methodLink RX12 439 yX12_isAsked ∈ LW := mw9 19 (by decide +kernel) rfl
theorem mlX12_442 : Cond.methodLink RX12 442 yX12_isBalanced ∈ LW := mw9 51 (by decide +kernel) rfl
theorem mlX12_445 : Cond.methodLink RX12 445 yX12_balances ∈ LW := mw9 47 (by decide +kernel) rfl
theorem mlX12_452 : Cond.methodLink RX12 452 yX12_commonOf ∈ LW := mw9 70 (by decide +kernel) rfl
theorem mlX12_456 : Cond.methodLink RX12 456 yX12_luckOf ∈ LW := mw9 63 (by decide +kernel) rfl
theorem mlX12_459 : Cond.methodLink RX12 459 yX12_wholeOf ∈ LW := mw9 67 (by decide +kernel) rfl
theorem mlX12_472 : Cond.methodLink RX12 472 yX12_draw ∈ LW := mw9 108 (by decide +kernel) rfl
theorem mlX12_475 : Cond.methodLink RX12 475 yX12_isCut ∈ LW := mw9 96 (by decide +kernel) rfl
theorem mlX12_478 : Cond.methodLink RX12 478 yX12_isGrown ∈ LW := mw9 100 (by decide +kernel) rfl
theorem mlX12_481 : Cond.methodLink RX12 481 yX12_isAny ∈ LW := mw9 104 (by decide +kernel) rfl
theorem mlX12_497 : Cond.methodLink RX12 497 yX12_does ∈ LW := mw9 92 (by decide +kernel) rfl
theorem mlX12_500 : Cond.methodLink RX12 500 yX12_holds ∈ LW := mw9 113 (by decide +kernel) rfl
theorem mlX12_503 : Cond.methodLink RX12 503 yX12_doAll ∈ LW := mw9 84 (by decide +kernel) rfl
theorem mlX12_506 : Cond.methodLink RX12 506 yX12_doOne ∈ LW := mw9 88 (by decide +kernel) rfl
theorem mlX12_514 : Cond.methodLink RX12 514 yX12_runsSeasons ∈ LW := mw9 80 (by decide +kernel) rfl
theorem mlX2_40 : Cond.methodLink RX2 40 yX5_hasEntry ∈ LW := mw6 20 (by decide +kernel) rfl
theorem mlX2_47 : Cond.methodLink RX2 47 yX2_behindEnd ∈ LW := mw6 21 (by decide +kernel) rfl
theorem mlX2_51 : Cond.methodLink RX2 51 yX2_doStep ∈ LW := mw6 25 (by decide +kernel) rfl
theorem mlX2_64 : Cond.methodLink RX2 64 yX2_cutOff ∈ LW := mw6 29 (by decide +kernel) rfl
theorem mlX2_68 : Cond.methodLink RX2 68 yX2_takeBet ∈ LW := mw6 35 (by decide +kernel) rfl
theorem mlX2_71 : Cond.methodLink RX2 71 yX2_lessenHeap ∈ LW := mw6 41 (by decide +kernel) rfl
theorem mlX2_74 : Cond.methodLink RX2 74 yX2_growOne ∈ LW := mw6 47 (by decide +kernel) rfl
theorem mlX2_77 : Cond.methodLink RX2 77 yX2_cutAny ∈ LW := mw6 53 (by decide +kernel) rfl
theorem mlX2_84 : Cond.methodLink RX2 84 yX2_holds ∈ LW := mw6 62 (by decide +kernel) rfl
theorem mlX2_91 : Cond.methodLink RX2 91 yX0_mayCut ∈ LW := mw6 33 (by decide +kernel) rfl
theorem mlX2_97 : Cond.methodLink RX2 97 yX0_shear ∈ LW := mw6 34 (by decide +kernel) rfl
theorem mlX2_101 : Cond.methodLink RX2 101 yX0_mayTake ∈ LW := mw6 39 (by decide +kernel) rfl
theorem mlX2_104 : Cond.methodLink RX2 104 yX0_winBet ∈ LW := mw6 40 (by decide +kernel) rfl
theorem mlX2_108 : Cond.methodLink RX2 108 yX0_mayLessen ∈ LW := mw6 45 (by decide +kernel) rfl
theorem mlX2_111 : Cond.methodLink RX2 111 yX0_lessen ∈ LW := mw6 46 (by decide +kernel) rfl
theorem mlX2_114 : Cond.methodLink RX2 114 yX0_mayGrow ∈ LW := mw6 51 (by decide +kernel) rfl
theorem mlX2_117 : Cond.methodLink RX2 117 yX0_addSprig ∈ LW := mw6 52 (by decide +kernel) rfl
theorem mlX2_123 : Cond.methodLink RX2 123 yX2_draw ∈ LW := mw6 57 (by decide +kernel) rfl
theorem mlX2_127 : Cond.methodLink RX2 127 yX0_isStanding ∈ LW := mw6 65 (by decide +kernel) rfl
theorem mlX2_133 : Cond.methodLink RX2 133 yX0_worthWith ∈ LW := mw6 66 (by decide +kernel) rfl
theorem mlX2_139 : Cond.methodLink RX2 139 yJ13_compare_74951 ∈ LW := mw6 68 (by decide +kernel) rfl
theorem mlX2_145 : Cond.methodLink RX2 145 yX2_compares ∈ LW := mw6 69 (by decide +kernel) rfl
theorem mlX2_148 : Cond.methodLink RX2 148 yX0_nimWith ∈ LW := mw6 72 (by decide +kernel) rfl
theorem mlX2_151 : Cond.methodLink RX2 151 yJ6_compare_7cf53 ∈ LW := mw6 73 (by decide +kernel) rfl
theorem mlX2_156 : Cond.methodLink RX2 156 yX4_winsBeginning ∈ LW := mw6 76 (by decide +kernel) rfl
theorem mlX3_11 : Cond.methodLink RX3 11 yX3_of ∈ LW := mw5 106 (by decide +kernel) rfl
theorem mlX3_23 : Cond.methodLink RX3 23 yX3_nextAbove ∈ LW := mw5 115 (by decide +kernel) rfl
theorem mlX3_29 : Cond.methodLink RX3 29 yJ9_abs_067f4 ∈ LW := mw5 125 (by decide +kernel) rfl
theorem mlX3_35 : Cond.methodLink RX3 35 yX3_isWhole ∈ LW := mw5 126 (by decide +kernel) rfl
theorem mlX3_39 : Cond.methodLink RX3 39 yJ13_numberOfTrailingZeros_95d88 ∈ LW := mw5 130 (by decide +kernel) rfl
theorem mlX3_45 : Cond.methodLink RX3 45 yX3_age ∈ LW := mw5 144 (by decide +kernel) rfl
theorem mlX4_32 : Cond.methodLink RX4 32 yX0_worthWith ∈ LW := mw5 15 (by decide +kernel) rfl
theorem mlX4_36 : Cond.methodLink RX4 36 yX0_nimWith ∈ LW := mw5 16 (by decide +kernel) rfl
theorem mlX4_43 : Cond.methodLink RX4 43 yX4_settled ∈ LW := mw5 17 (by decide +kernel) rfl
theorem mlX4_47 : Cond.methodLink RX4 47 yX4_isOdd ∈ LW := mw5 29 (by decide +kernel) rfl
theorem mlX4_51 : Cond.methodLink RX4 51 yX4_decides ∈ LW := mw5 33 (by decide +kernel) rfl
theorem mlX4_55 : Cond.methodLink RX4 55 yX0_hottestBut ∈ LW := mw5 20 (by decide +kernel) rfl
theorem mlX4_58 : Cond.methodLink RX4 58 yX0_gain ∈ LW := mw5 24 (by decide +kernel) rfl
theorem mlX4_70 : Cond.methodLink RX4 70 yJ6_bitCount_0f7a4 ∈ LW := mw5 32 (by decide +kernel) rfl
theorem mlX4_75 : Cond.methodLink RX4 75 yX4_lookAtCuts ∈ LW := mw5 49 (by decide +kernel) rfl
theorem mlX4_79 : Cond.methodLink RX4 79 yX4_lookAtBets ∈ LW := mw5 62 (by decide +kernel) rfl
theorem mlX4_83 : Cond.methodLink RX4 83 yX4_lookAtHeaps ∈ LW := mw5 67 (by decide +kernel) rfl
theorem mlX4_86 : Cond.methodLink RX4 86 yX0_maySpend ∈ LW := mw5 72 (by decide +kernel) rfl
theorem mlX4_92 : Cond.methodLink RX4 92 yX4_wonBy ∈ LW := mw5 55 (by decide +kernel) rfl
theorem mlX4_96 : Cond.methodLink RX4 96 yX4_note ∈ LW := mw5 58 (by decide +kernel) rfl
theorem mlX4_103 : Cond.methodLink RX4 103 yX0_mayCut ∈ LW := mw5 53 (by decide +kernel) rfl
theorem mlX4_107 : Cond.methodLink RX4 107 yX0_branchSet ∈ LW := mw5 54 (by decide +kernel) rfl
theorem mlX4_110 : Cond.methodLink RX4 110 yX0_mayTake ∈ LW := mw5 66 (by decide +kernel) rfl
theorem mlX4_113 : Cond.methodLink RX4 113 yX0_hasHeap ∈ LW := mw5 71 (by decide +kernel) rfl
theorem mlX5_44 : Cond.methodLink RX5 44 yX5_isBlock ∈ LW := mw4 8 (by decide +kernel) rfl
theorem mlX5_48 : Cond.methodLink RX5 48 yX5_hasEntry ∈ LW := mw3 213 (by decide +kernel) rfl
theorem mlX6_9 : Cond.methodLink RX6 9 yX5_begin ∈ LW := mw3 196 (by decide +kernel) rfl
theorem mlX6_14 : Cond.methodLink RX6 14 yX8_goesOn ∈ LW := mw3 200 (by decide +kernel) rfl
theorem mlX6_22 : Cond.methodLink RX6 22 yX8_isWord ∈ LW := mw3 202 (by decide +kernel) rfl
theorem mlX6_26 : Cond.methodLink RX6 26 yX6_parseEnd ∈ LW := mw3 203 (by decide +kernel) rfl
theorem mlX6_32 : Cond.methodLink RX6 32 yX6_parseStep ∈ LW := mw3 217 (by decide +kernel) rfl
theorem mlX6_39 : Cond.methodLink RX6 39 yX8_refuse ∈ LW := mw3 206 (by decide +kernel) rfl
theorem mlX6_43 : Cond.methodLink RX6 43 yX8_step ∈ LW := mw3 207 (by decide +kernel) rfl
theorem mlX6_46 : Cond.methodLink RX6 46 yX8_takeClose ∈ LW := mw3 208 (by decide +kernel) rfl
theorem mlX6_52 : Cond.methodLink RX6 52 yX5_close ∈ LW := mw3 209 (by decide +kernel) rfl
theorem mlX6_55 : Cond.methodLink RX6 55 yX6_kindHere ∈ LW := mw3 220 (by decide +kernel) rfl
theorem mlX6_62 : Cond.methodLink RX6 62 yX5_isBlock ∈ LW := mw3 231 (by decide +kernel) rfl
theorem mlX6_66 : Cond.methodLink RX6 66 yX6_parseDeed ∈ LW := mw3 234 (by decide +kernel) rfl
theorem mlX6_70 : Cond.methodLink RX6 70 yX6_parseLess ∈ LW := mw4 9 (by decide +kernel) rfl
theorem mlX6_73 : Cond.methodLink RX6 73 yX6_parseGrow ∈ LW := mw4 12 (by decide +kernel) rfl
theorem mlX6_76 : Cond.methodLink RX6 76 yX6_parseWhen ∈ LW := mw4 17 (by decide +kernel) rfl
theorem mlX6_79 : Cond.methodLink RX6 79 yX8_takeNumber ∈ LW := mw4 3 (by decide +kernel) rfl
theorem mlX6_83 : Cond.methodLink RX6 83 yX5_add ∈ LW := mw4 4 (by decide +kernel) rfl
theorem mlX6_103 : Cond.methodLink RX6 103 yX8_takeSide ∈ LW := mw3 237 (by decide +kernel) rfl
theorem mlX6_107 : Cond.methodLink RX6 107 yX8_takeColour ∈ LW := mw4 15 (by decide +kernel) rfl
theorem mlX6_112 : Cond.methodLink RX6 112 yX6_testHere ∈ LW := mw4 20 (by decide +kernel) rfl
theorem mlX6_115 : Cond.methodLink RX6 115 yX6_takeComparison ∈ LW := mw4 27 (by decide +kernel) rfl
theorem mlX6_126 : Cond.methodLink RX6 126 yX8_isMark ∈ LW := mw4 30 (by decide +kernel) rfl
theorem mlX7_26 : Cond.methodLink RX7 26 yX0_branchSet ∈ LW := mw5 204 (by decide +kernel) rfl
theorem mlX7_32 : Cond.methodLink RX7 32 yX7_leastOf ∈ LW := mw5 205 (by decide +kernel) rfl
theorem mlX7_43 : Cond.methodLink RX7 43 yX7_balances ∈ LW := mw5 209 (by decide +kernel) rfl
theorem mlX7_47 : Cond.methodLink RX7 47 yX7_nextOfSize ∈ LW := mw5 216 (by decide +kernel) rfl
theorem mlX7_51 : Cond.methodLink RX7 51 yJ6_numberOfTrailingZeros_0f7a4 ∈ LW := mw5 220 (by decide +kernel) rfl
theorem mlX7_60 : Cond.methodLink RX7 60 yX0_worthWith ∈ LW := mw5 214 (by decide +kernel) rfl
theorem mlX7_64 : Cond.methodLink RX7 64 yX0_nimWith ∈ LW := mw5 215 (by decide +kernel) rfl
theorem mlX7_67 : Cond.methodLink RX7 67 yJ6_bitCount_0f7a4 ∈ LW := mw5 232 (by decide +kernel) rfl
theorem mlX7_76 : Cond.methodLink RX7 76 yX0_hottestBut ∈ LW := mw5 233 (by decide +kernel) rfl
theorem mlX7_79 : Cond.methodLink RX7 79 yX0_hasHeap ∈ LW := mw5 234 (by decide +kernel) rfl
theorem mlX7_86 : Cond.methodLink RX7 86 yX7_gather ∈ LW := mw5 239 (by decide +kernel) rfl
theorem mlX7_90 : Cond.methodLink RX7 90 yX7_oddsOf ∈ LW := mw6 4 (by decide +kernel) rfl
theorem mlX7_94 : Cond.methodLink RX7 94 yX0_isStanding ∈ LW := mw6 3 (by decide +kernel) rfl
theorem mlX7_97 : Cond.methodLink RX7 97 yX0_mayCut ∈ LW := mw6 8 (by decide +kernel) rfl
theorem mlX8_40 : Cond.methodLink RX8 40 yX8_hasRoom ∈ LW := mw2 238 (by decide +kernel) rfl
theorem mlX8_44 : Cond.methodLink RX8 44 yJ9_min_7cf53 ∈ LW := mw3 7 (by decide +kernel) rfl
theorem mlX8_50 : Cond.methodLink RX8 50 yJ9_max_7cf53 ∈ LW := mw3 10 (by decide +kernel) rfl
theorem mlX8_53 : Cond.methodLink RX8 53 yX8_step ∈ LW := mw3 13 (by decide +kernel) rfl
theorem mlX8_56 : Cond.methodLink RX8 56 yX8_charAt ∈ LW := mw3 17 (by decide +kernel) rfl
theorem mlX8_60 : Cond.methodLink RX8 60 yX8_isBlank ∈ LW := mw3 21 (by decide +kernel) rfl
theorem mlX8_63 : Cond.methodLink RX8 63 yX8_isLetter ∈ LW := mw3 24 (by decide +kernel) rfl
theorem mlX8_66 : Cond.methodLink RX8 66 yX8_isDigit ∈ LW := mw3 27 (by decide +kernel) rfl
theorem mlX8_69 : Cond.methodLink RX8 69 yX8_readNumber ∈ LW := mw3 30 (by decide +kernel) rfl
theorem mlX8_72 : Cond.methodLink RX8 72 yX8_isSign ∈ LW := mw3 34 (by decide +kernel) rfl
theorem mlX8_75 : Cond.methodLink RX8 75 yJ0_length_8abf5 ∈ LW := mw3 53 (by decide +kernel) rfl
theorem mlX8_81 : Cond.methodLink RX8 81 yJ0_charAt_5068e ∈ LW := mw3 63 (by decide +kernel) rfl
theorem mlX8_84 : Cond.methodLink RX8 84 yX8_isMark ∈ LW := mw3 146 (by decide +kernel) rfl
theorem mlX8_88 : Cond.methodLink RX8 88 yX8_refuse ∈ LW := mw3 117 (by decide +kernel) rfl
theorem mlX8_94 : Cond.methodLink RX8 94 yX8_isWord ∈ LW := mw3 114 (by decide +kernel) rfl
theorem mlX9_23 : Cond.methodLink RX9 23 yX9_isTray ∈ LW := mw2 169 (by decide +kernel) rfl
theorem mlX9_27 : Cond.methodLink RX9 27 yX9_holds ∈ LW := mw2 194 (by decide +kernel) rfl
theorem mlX9_33 : Cond.methodLink RX9 33 yX9_fitted ∈ LW := mw2 195 (by decide +kernel) rfl
theorem neX0_60 : (RX0, 60, yX11_isIn) ∈ nestL := List.mem_of_getElem? (i := 0) rfl
theorem neX10_29 : (RX10, 29, yX11_isIn) ∈ nestL := List.mem_of_getElem? (i := 1) rfl
theorem neX4_64 : (RX4, 64, yX11_other) ∈ nestL := List.mem_of_getElem? (i := 3) rfl
theorem neX7_56 : (RX7, 56, yX11_isIn) ∈ nestL := List.mem_of_getElem? (i := 2) rfl
theorem neX7_100 : (RX7, 100, yX11_other) ∈ nestL := List.mem_of_getElem? (i := 4) rfl
theorem kcJ6_264 : Cond.constant RJ6 264 (65536 : Int32) ∈ LW := mw5 136 (by decide +kernel) rfl
theorem kcJ6_265 : Cond.constant RJ6 265 (1431655765 : Int32) ∈ LW := mw4 66 (by decide +kernel) rfl
theorem kcJ6_266 : Cond.constant RJ6 266 (858993459 : Int32) ∈ LW := mw4 67 (by decide +kernel) rfl
theorem kcJ6_267 : Cond.constant RJ6 267 (252645135 : Int32) ∈ LW := mw4 68 (by decide +kernel) rfl
theorem kcX10_22 : Cond.constant RX10 22 (1048576 : Int32) ∈ LW := mw5 162 (by decide +kernel) rfl
theorem kcX12_465 : Cond.constant RX12 465 (65536 : Int32) ∈ LW := mw9 112 (by decide +kernel) rfl
theorem kcX2_126 : Cond.constant RX2 126 (65535 : Int32) ∈ LW := mw6 61 (by decide +kernel) rfl
theorem kcX3_9 : Cond.constant RX3 9 (-20971520 : Int32) ∈ LW := mw5 104 (by decide +kernel) rfl
theorem kcX3_10 : Cond.constant RX3 10 (20971520 : Int32) ∈ LW := mw5 105 (by decide +kernel) rfl
theorem kcX7_50 : Cond.constant RX7 50 (1048576 : Int32) ∈ LW := mw5 219 (by decide +kernel) rfl
theorem klX0_111 : Cond.constantLong RX0 111 (1073741824 : Int64) ∈ LW := mw4 198 (by decide +kernel) rfl
theorem klX11_257 : Cond.constantLong RX11 257 (3 : Int64) ∈ LW := mw4 97 (by decide +kernel) rfl
theorem klX11_359 : Cond.constantLong RX11 359 (2 : Int64) ∈ LW := mw5 96 (by decide +kernel) rfl
theorem klX11_417 : Cond.constantLong RX11 417 (46656000000 : Int64) ∈ LW := mw6 11 (by decide +kernel) rfl
theorem klX11_440 : Cond.constantLong RX11 440 (1073741824 : Int64) ∈ LW := mw4 207 (by decide +kernel) rfl
theorem klX12_84 : Cond.constantLong RX12 84 (-1 : Int64) ∈ LW := mw7 37 (by decide +kernel) rfl
theorem klX12_86 : Cond.constantLong RX12 86 (3 : Int64) ∈ LW := mw8 52 (by decide +kernel) rfl
theorem klX12_117 : Cond.constantLong RX12 117 (32 : Int64) ∈ LW := mw7 73 (by decide +kernel) rfl
theorem klX12_119 : Cond.constantLong RX12 119 (96 : Int64) ∈ LW := mw7 74 (by decide +kernel) rfl
theorem klX12_263 : Cond.constantLong RX12 263 (6 : Int64) ∈ LW := mw7 225 (by decide +kernel) rfl
theorem klX12_283 : Cond.constantLong RX12 283 (4 : Int64) ∈ LW := mw8 6 (by decide +kernel) rfl
theorem klX12_307 : Cond.constantLong RX12 307 (1048576 : Int64) ∈ LW := mw8 66 (by decide +kernel) rfl
theorem klX12_347 : Cond.constantLong RX12 347 (15 : Int64) ∈ LW := mw8 126 (by decide +kernel) rfl
theorem klX12_355 : Cond.constantLong RX12 355 (2 : Int64) ∈ LW := mw8 143 (by decide +kernel) rfl
theorem klX12_360 : Cond.constantLong RX12 360 (20 : Int64) ∈ LW := mw8 160 (by decide +kernel) rfl
theorem klX12_415 : Cond.constantLong RX12 415 (524288 : Int64) ∈ LW := mw9 5 (by decide +kernel) rfl
theorem klX12_417 : Cond.constantLong RX12 417 (262144 : Int64) ∈ LW := mw9 6 (by decide +kernel) rfl
theorem klX12_448 : Cond.constantLong RX12 448 (12 : Int64) ∈ LW := mw9 73 (by decide +kernel) rfl
theorem klX12_450 : Cond.constantLong RX12 450 (60 : Int64) ∈ LW := mw9 74 (by decide +kernel) rfl
theorem klX12_512 : Cond.constantLong RX12 512 (9999 : Int64) ∈ LW := mw9 79 (by decide +kernel) rfl
theorem klX2_137 : Cond.constantLong RX2 137 (1073741824 : Int64) ∈ LW := mw6 67 (by decide +kernel) rfl
theorem klX3_17 : Cond.constantLong RX3 17 (-21474836480 : Int64) ∈ LW := mw5 109 (by decide +kernel) rfl
theorem klX3_19 : Cond.constantLong RX3 19 (21474836480 : Int64) ∈ LW := mw5 110 (by decide +kernel) rfl
theorem klX3_21 : Cond.constantLong RX3 21 (1073741824 : Int64) ∈ LW := mw4 202 (by decide +kernel) rfl
theorem klX3_27 : Cond.constantLong RX3 27 (1073741823 : Int64) ∈ LW := mw5 129 (by decide +kernel) rfl
theorem klX3_48 : Cond.constantLong RX3 48 (536870912 : Int64) ∈ LW := mw5 145 (by decide +kernel) rfl
theorem klX4_62 : Cond.constantLong RX4 62 (1073741824 : Int64) ∈ LW := mw5 25 (by decide +kernel) rfl
theorem klX4_90 : Cond.constantLong RX4 90 (-1073741824 : Int64) ∈ LW := mw5 73 (by decide +kernel) rfl
theorem klX7_103 : Cond.constantLong RX7 103 (46656000000 : Int64) ∈ LW := mw6 10 (by decide +kernel) rfl
theorem klX9_31 : Cond.constantLong RX9 31 (-1 : Int64) ∈ LW := mw2 210 (by decide +kernel) rfl
theorem flJ0_9 : Cond.fieldLink RJ0 9 "java/lang/String" "value" "[B" ∈ LW := mw9 134 (by decide +kernel) rfl
theorem flJ0_15 : Cond.fieldLink RJ0 15 "java/lang/String" "coder" "B" ∈ LW := mw9 135 (by decide +kernel) rfl
theorem flJ0_38 : Cond.fieldLink RJ0 38 "java/lang/String" "COMPACT_STRINGS" "Z" ∈ LW := mw3 61 (by decide +kernel) rfl
theorem flJ0_1053 : Cond.fieldLink RJ0 1053 "jdk/internal/util/Preconditions" "SIOOBE_FORMATTER" "Ljava/util/function/BiFunction;" ∈ LW := mw3 77 (by decide +kernel) rfl
theorem stX1_20 : (RX1, 20, "sprig", 0) ∈ strL := List.mem_of_getElem? (i := 0) rfl
theorem stX1_32 : (RX1, 32, "heap", 1) ∈ strL := List.mem_of_getElem? (i := 1) rfl
theorem stX1_37 : (RX1, 37, "bet", 2) ∈ strL := List.mem_of_getElem? (i := 2) rfl
theorem stX1_57 : (RX1, 57, "on", 3) ∈ strL := List.mem_of_getElem? (i := 3) rfl
theorem stX8_92 : (RX8, 92, "blue", 4) ∈ strL := List.mem_of_getElem? (i := 4) rfl
theorem stX8_98 : (RX8, 98, "red", 5) ∈ strL := List.mem_of_getElem? (i := 5) rfl
theorem stX8_100 : (RX8, 100, "green", 6) ∈ strL := List.mem_of_getElem? (i := 6) rfl
theorem stX8_102 : (RX8, 102, "left", 7) ∈ strL := List.mem_of_getElem? (i := 7) rfl
theorem stX8_104 : (RX8, 104, "right", 8) ∈ strL := List.mem_of_getElem? (i := 8) rfl
theorem stX6_20 : (RX6, 20, "end", 9) ∈ strL := List.mem_of_getElem? (i := 9) rfl
theorem stX6_87 : (RX6, 87, "cut", 10) ∈ strL := List.mem_of_getElem? (i := 10) rfl
theorem stX6_89 : (RX6, 89, "take", 11) ∈ strL := List.mem_of_getElem? (i := 11) rfl
theorem stX6_91 : (RX6, 91, "less", 12) ∈ strL := List.mem_of_getElem? (i := 12) rfl
theorem stX6_93 : (RX6, 93, "grow", 13) ∈ strL := List.mem_of_getElem? (i := 13) rfl
theorem stX6_95 : (RX6, 95, "any", 14) ∈ strL := List.mem_of_getElem? (i := 14) rfl
theorem stX6_97 : (RX6, 97, "when", 15) ∈ strL := List.mem_of_getElem? (i := 15) rfl
theorem stX6_99 : (RX6, 99, "loop", 16) ∈ strL := List.mem_of_getElem? (i := 16) rfl
theorem stX6_101 : (RX6, 101, "stop", 17) ∈ strL := List.mem_of_getElem? (i := 17) rfl
theorem stX6_110 : (RX6, 110, "on", 3) ∈ strL := List.mem_of_getElem? (i := 18) rfl
theorem stX6_118 : (RX6, 118, "stands", 18) ∈ strL := List.mem_of_getElem? (i := 19) rfl
theorem stX6_120 : (RX6, 120, "worth", 19) ∈ strL := List.mem_of_getElem? (i := 20) rfl
theorem stX6_122 : (RX6, 122, "nimber", 20) ∈ strL := List.mem_of_getElem? (i := 21) rfl
theorem stX6_124 : (RX6, 124, "wins", 21) ∈ strL := List.mem_of_getElem? (i := 22) rfl
theorem ic_0 : IsC 0 (0, 9, 0) := ⟨by decide, rfl⟩
theorem ic_1 : IsC 1 (1, 4, 0) := ⟨by decide, rfl⟩
theorem ic_2 : IsC 2 (1, 4, 0) := ⟨by decide, rfl⟩
theorem ic_3 : IsC 3 (2, 240, 0) := ⟨by decide, rfl⟩
theorem ic_4 : IsC 4 (3, 900, 0) := ⟨by decide, rfl⟩
theorem ic_5 : IsC 5 (1, 1780, 0) := ⟨by decide, rfl⟩
theorem ic_6 : IsC 6 (1, 84, 0) := ⟨by decide, rfl⟩
theorem ic_7 : IsC 7 (2, 20, 0) := ⟨by decide, rfl⟩
theorem ic_8 : IsC 8 (1, 20, 0) := ⟨by decide, rfl⟩
theorem ic_9 : IsC 9 (1, 20, 0) := ⟨by decide, rfl⟩
theorem ic_10 : IsC 10 (1, 5, 0) := ⟨by decide, rfl⟩
theorem ic_11 : IsC 11 (0, 8, 0) := ⟨by decide, rfl⟩
theorem ic_12 : IsC 12 (0, 6, 0) := ⟨by decide, rfl⟩
theorem ic_13 : IsC 13 (4, 4, 16) := ⟨by decide, rfl⟩
theorem ic_14 : IsC 14 (1, 4, 0) := ⟨by decide, rfl⟩
theorem ic_15 : IsC 15 (1, 4, 0) := ⟨by decide, rfl⟩
theorem ic_16 : IsC 16 (2, 60, 0) := ⟨by decide, rfl⟩
theorem ic_17 : IsC 17 (2, 60, 0) := ⟨by decide, rfl⟩
theorem ic_18 : IsC 18 (2, 60, 0) := ⟨by decide, rfl⟩
theorem ic_19 : IsC 19 (2, 60, 0) := ⟨by decide, rfl⟩
theorem ic_20 : IsC 20 (0, 5, 0) := ⟨by decide, rfl⟩
theorem ic_21 : IsC 21 (3, 900, 0) := ⟨by decide, rfl⟩
theorem ic_22 : IsC 22 (0, 0, 0) := ⟨by decide, rfl⟩
theorem ic_23 : IsC 23 (1, 20, 0) := ⟨by decide, rfl⟩
theorem ic_24 : IsC 24 (1, 20, 0) := ⟨by decide, rfl⟩
theorem ic_25 : IsC 25 (1, 4, 0) := ⟨by decide, rfl⟩
theorem ic_26 : IsC 26 (1, 5, 0) := ⟨by decide, rfl⟩
theorem ic_27 : IsC 27 (1, 5, 0) := ⟨by decide, rfl⟩
theorem ic_28 : IsC 28 (2, 20, 0) := ⟨by decide, rfl⟩
theorem ic_29 : IsC 29 (1, 20, 0) := ⟨by decide, rfl⟩
theorem ic_30 : IsC 30 (0, 0, 0) := ⟨by decide, rfl⟩
theorem ic_31 : IsC 31 (1, 20, 0) := ⟨by decide, rfl⟩
theorem ic_32 : IsC 32 (1, 20, 0) := ⟨by decide, rfl⟩
theorem ic_33 : IsC 33 (1, 4, 0) := ⟨by decide, rfl⟩
theorem ic_34 : IsC 34 (1, 5, 0) := ⟨by decide, rfl⟩
theorem ic_35 : IsC 35 (1, 5, 0) := ⟨by decide, rfl⟩
theorem ic_36 : IsC 36 (2, 20, 0) := ⟨by decide, rfl⟩
theorem ic_37 : IsC 37 (1, 20, 0) := ⟨by decide, rfl⟩
theorem ic_38 : IsC 38 (0, 0, 0) := ⟨by decide, rfl⟩
theorem ic_39 : IsC 39 (1, 20, 0) := ⟨by decide, rfl⟩
theorem ic_40 : IsC 40 (1, 20, 0) := ⟨by decide, rfl⟩
theorem ic_41 : IsC 41 (1, 4, 0) := ⟨by decide, rfl⟩
theorem ic_42 : IsC 42 (1, 5, 0) := ⟨by decide, rfl⟩
theorem ic_43 : IsC 43 (1, 5, 0) := ⟨by decide, rfl⟩
theorem ic_44 : IsC 44 (2, 20, 0) := ⟨by decide, rfl⟩
theorem ic_45 : IsC 45 (1, 20, 0) := ⟨by decide, rfl⟩
theorem ic_46 : IsC 46 (0, 0, 0) := ⟨by decide, rfl⟩
theorem ic_47 : IsC 47 (1, 20, 0) := ⟨by decide, rfl⟩
theorem ic_48 : IsC 48 (1, 20, 0) := ⟨by decide, rfl⟩
theorem ic_49 : IsC 49 (1, 4, 0) := ⟨by decide, rfl⟩
theorem ic_50 : IsC 50 (1, 5, 0) := ⟨by decide, rfl⟩
theorem ic_51 : IsC 51 (1, 5, 0) := ⟨by decide, rfl⟩
theorem ic_52 : IsC 52 (2, 20, 0) := ⟨by decide, rfl⟩
theorem ic_53 : IsC 53 (1, 20, 0) := ⟨by decide, rfl⟩
theorem ic_54 : IsC 54 (0, 0, 0) := ⟨by decide, rfl⟩
theorem ic_55 : IsC 55 (1, 20, 0) := ⟨by decide, rfl⟩
theorem ic_56 : IsC 56 (1, 20, 0) := ⟨by decide, rfl⟩
theorem ic_57 : IsC 57 (1, 4, 0) := ⟨by decide, rfl⟩
theorem ic_58 : IsC 58 (1, 5, 0) := ⟨by decide, rfl⟩
theorem ic_59 : IsC 59 (1, 5, 0) := ⟨by decide, rfl⟩
theorem ic_60 : IsC 60 (2, 20, 0) := ⟨by decide, rfl⟩
theorem ic_61 : IsC 61 (1, 20, 0) := ⟨by decide, rfl⟩
theorem ic_62 : IsC 62 (0, 3, 0) := ⟨by decide, rfl⟩
theorem ic_63 : IsC 63 (1, 60, 0) := ⟨by decide, rfl⟩
theorem ic_64 : IsC 64 (1, 60, 0) := ⟨by decide, rfl⟩
theorem ic_65 : IsC 65 (1, 60, 0) := ⟨by decide, rfl⟩
theorem ic_66 : IsC 66 (1, 60, 0) := ⟨by decide, rfl⟩
theorem ic_67 : IsC 67 (1, 60, 0) := ⟨by decide, rfl⟩
theorem ic_68 : IsC 68 (1, 3, 0) := ⟨by decide, rfl⟩
theorem ic_69 : IsC 69 (0, 3, 0) := ⟨by decide, rfl⟩
theorem ic_70 : IsC 70 (1, 60, 0) := ⟨by decide, rfl⟩
theorem ic_71 : IsC 71 (1, 60, 0) := ⟨by decide, rfl⟩
theorem ic_72 : IsC 72 (1, 60, 0) := ⟨by decide, rfl⟩
theorem ic_73 : IsC 73 (1, 60, 0) := ⟨by decide, rfl⟩
theorem ic_74 : IsC 74 (1, 60, 0) := ⟨by decide, rfl⟩
theorem ic_75 : IsC 75 (1, 3, 0) := ⟨by decide, rfl⟩
theorem ic_76 : IsC 76 (0, 3, 0) := ⟨by decide, rfl⟩
theorem ic_77 : IsC 77 (1, 60, 0) := ⟨by decide, rfl⟩
theorem ic_78 : IsC 78 (1, 60, 0) := ⟨by decide, rfl⟩
theorem ic_79 : IsC 79 (1, 60, 0) := ⟨by decide, rfl⟩
theorem ic_80 : IsC 80 (1, 60, 0) := ⟨by decide, rfl⟩
theorem ic_81 : IsC 81 (1, 60, 0) := ⟨by decide, rfl⟩
theorem ic_82 : IsC 82 (1, 3, 0) := ⟨by decide, rfl⟩
theorem ic_83 : IsC 83 (0, 3, 0) := ⟨by decide, rfl⟩
theorem ic_84 : IsC 84 (1, 60, 0) := ⟨by decide, rfl⟩
theorem ic_85 : IsC 85 (1, 60, 0) := ⟨by decide, rfl⟩
theorem ic_86 : IsC 86 (1, 60, 0) := ⟨by decide, rfl⟩
theorem ic_87 : IsC 87 (1, 60, 0) := ⟨by decide, rfl⟩
theorem ic_88 : IsC 88 (1, 60, 0) := ⟨by decide, rfl⟩
theorem ic_89 : IsC 89 (1, 3, 0) := ⟨by decide, rfl⟩
theorem ic_90 : IsC 90 (0, 3, 0) := ⟨by decide, rfl⟩
theorem ic_91 : IsC 91 (1, 60, 0) := ⟨by decide, rfl⟩
theorem ic_92 : IsC 92 (1, 60, 0) := ⟨by decide, rfl⟩
theorem ic_93 : IsC 93 (1, 60, 0) := ⟨by decide, rfl⟩
theorem ic_94 : IsC 94 (1, 60, 0) := ⟨by decide, rfl⟩
theorem ic_95 : IsC 95 (1, 60, 0) := ⟨by decide, rfl⟩
theorem ic_96 : IsC 96 (1, 3, 0) := ⟨by decide, rfl⟩
theorem ic_97 : IsC 97 (5, 3, 38) := ⟨by decide, rfl⟩
theorem ic_98 : IsC 98 (6, 3, 76) := ⟨by decide, rfl⟩
theorem ic_99 : IsC 99 (0, 2, 0) := ⟨by decide, rfl⟩
theorem ic_100 : IsC 100 (0, 7, 0) := ⟨by decide, rfl⟩
theorem ic_101 : IsC 101 (1, 20, 0) := ⟨by decide, rfl⟩
theorem ic_102 : IsC 102 (0, 4, 0) := ⟨by decide, rfl⟩
theorem ic_103 : IsC 103 (1, 20, 0) := ⟨by decide, rfl⟩
theorem ic_104 : IsC 104 (1, 6, 0) := ⟨by decide, rfl⟩
theorem ic_105 : IsC 105 (1, 6, 0) := ⟨by decide, rfl⟩
theorem ic_106 : IsC 106 (4, 2, 107) := ⟨by decide, rfl⟩
theorem ic_107 : IsC 107 (2, 64, 0) := ⟨by decide, rfl⟩
theorem ic_108 : IsC 108 (2, 64, 0) := ⟨by decide, rfl⟩
theorem ic_109 : IsC 109 (0, 1, 0) := ⟨by decide, rfl⟩
theorem ic_110 : IsC 110 (1, 60, 0) := ⟨by decide, rfl⟩
theorem ic_111 : IsC 111 (0, 1, 0) := ⟨by decide, rfl⟩
theorem ic_112 : IsC 112 (1, 60, 0) := ⟨by decide, rfl⟩
theorem ih0_1 {k : Nat} (h : IsC k (0, 0, 0)) : IsC (k + 1) (1, 20, 0) := by
  have h1 : ∀ k, k < 113 → CT k = (0, 0, 0) → k + 1 < 113 ∧ CT (k + 1) = (1, 20, 0) := by decide +kernel
  exact h1 k h.1 h.2
theorem ih0_2 {k : Nat} (h : IsC k (0, 0, 0)) : IsC (k + 2) (1, 20, 0) := by
  have h1 : ∀ k, k < 113 → CT k = (0, 0, 0) → k + 2 < 113 ∧ CT (k + 2) = (1, 20, 0) := by decide +kernel
  exact h1 k h.1 h.2
theorem ih0_3 {k : Nat} (h : IsC k (0, 0, 0)) : IsC (k + 3) (1, 4, 0) := by
  have h1 : ∀ k, k < 113 → CT k = (0, 0, 0) → k + 3 < 113 ∧ CT (k + 3) = (1, 4, 0) := by decide +kernel
  exact h1 k h.1 h.2
theorem ih0_4 {k : Nat} (h : IsC k (0, 0, 0)) : IsC (k + 4) (1, 5, 0) := by
  have h1 : ∀ k, k < 113 → CT k = (0, 0, 0) → k + 4 < 113 ∧ CT (k + 4) = (1, 5, 0) := by decide +kernel
  exact h1 k h.1 h.2
theorem ih0_5 {k : Nat} (h : IsC k (0, 0, 0)) : IsC (k + 5) (1, 5, 0) := by
  have h1 : ∀ k, k < 113 → CT k = (0, 0, 0) → k + 5 < 113 ∧ CT (k + 5) = (1, 5, 0) := by decide +kernel
  exact h1 k h.1 h.2
theorem ih0_6 {k : Nat} (h : IsC k (0, 0, 0)) : IsC (k + 6) (2, 20, 0) := by
  have h1 : ∀ k, k < 113 → CT k = (0, 0, 0) → k + 6 < 113 ∧ CT (k + 6) = (2, 20, 0) := by decide +kernel
  exact h1 k h.1 h.2
theorem ih0_7 {k : Nat} (h : IsC k (0, 0, 0)) : IsC (k + 7) (1, 20, 0) := by
  have h1 : ∀ k, k < 113 → CT k = (0, 0, 0) → k + 7 < 113 ∧ CT (k + 7) = (1, 20, 0) := by decide +kernel
  exact h1 k h.1 h.2
theorem ih1_1 {k : Nat} (h : IsC k (0, 1, 0)) : IsC (k + 1) (1, 60, 0) := by
  have h1 : ∀ k, k < 113 → CT k = (0, 1, 0) → k + 1 < 113 ∧ CT (k + 1) = (1, 60, 0) := by decide +kernel
  exact h1 k h.1 h.2
theorem ih3_1 {k : Nat} (h : IsC k (0, 3, 0)) : IsC (k + 1) (1, 60, 0) := by
  have h1 : ∀ k, k < 113 → CT k = (0, 3, 0) → k + 1 < 113 ∧ CT (k + 1) = (1, 60, 0) := by decide +kernel
  exact h1 k h.1 h.2
theorem ih3_2 {k : Nat} (h : IsC k (0, 3, 0)) : IsC (k + 2) (1, 60, 0) := by
  have h1 : ∀ k, k < 113 → CT k = (0, 3, 0) → k + 2 < 113 ∧ CT (k + 2) = (1, 60, 0) := by decide +kernel
  exact h1 k h.1 h.2
theorem ih3_3 {k : Nat} (h : IsC k (0, 3, 0)) : IsC (k + 3) (1, 60, 0) := by
  have h1 : ∀ k, k < 113 → CT k = (0, 3, 0) → k + 3 < 113 ∧ CT (k + 3) = (1, 60, 0) := by decide +kernel
  exact h1 k h.1 h.2
theorem ih3_4 {k : Nat} (h : IsC k (0, 3, 0)) : IsC (k + 4) (1, 60, 0) := by
  have h1 : ∀ k, k < 113 → CT k = (0, 3, 0) → k + 4 < 113 ∧ CT (k + 4) = (1, 60, 0) := by decide +kernel
  exact h1 k h.1 h.2
theorem ih3_5 {k : Nat} (h : IsC k (0, 3, 0)) : IsC (k + 5) (1, 60, 0) := by
  have h1 : ∀ k, k < 113 → CT k = (0, 3, 0) → k + 5 < 113 ∧ CT (k + 5) = (1, 60, 0) := by decide +kernel
  exact h1 k h.1 h.2
theorem ih3_6 {k : Nat} (h : IsC k (0, 3, 0)) : IsC (k + 6) (1, 3, 0) := by
  have h1 : ∀ k, k < 113 → CT k = (0, 3, 0) → k + 6 < 113 ∧ CT (k + 6) = (1, 3, 0) := by decide +kernel
  exact h1 k h.1 h.2
theorem ia_13 {i : Int32} (hb : ixb i 4 = true) : IsC (16 + i.toNatClampNeg) (2, 60, 0) := by
  have h1 : ∀ j, j < 4 → 16 + j < 113 ∧ CT (16 + j) = (2, 60, 0) := by decide +kernel
  exact h1 _ (ixb_lt hb)
theorem ia_106 {i : Int32} (hb : ixb i 2 = true) : IsC (107 + i.toNatClampNeg) (2, 64, 0) := by
  have h1 : ∀ j, j < 2 → 107 + j < 113 ∧ CT (107 + j) = (2, 64, 0) := by decide +kernel
  exact h1 _ (ixb_lt hb)
theorem ia_97 {i : Int32} (hb : ixb i 3 = true) : IsC (38 + 8 * i.toNatClampNeg) (0, 0, 0) := by
  have h1 : ∀ j, j < 3 → 38 + 8 * j < 113 ∧ CT (38 + 8 * j) = (0, 0, 0) := by decide +kernel
  exact h1 _ (ixb_lt hb)
theorem ia_98 {i : Int32} (hb : ixb i 3 = true) : IsC (76 + 7 * i.toNatClampNeg) (0, 3, 0) := by
  have h1 : ∀ j, j < 3 → 76 + 7 * j < 113 ∧ CT (76 + 7 * j) = (0, 3, 0) := by decide +kernel
  exact h1 _ (ixb_lt hb)
theorem kb_6 : (Int8.ofInt (6)).toInt32 = (6 : Int32) := by decide
theorem kb_7 : (Int8.ofInt (7)).toInt32 = (7 : Int32) := by decide
theorem kb_8 : (Int8.ofInt (8)).toInt32 = (8 : Int32) := by decide
theorem kb_9 : (Int8.ofInt (9)).toInt32 = (9 : Int32) := by decide
theorem kb_10 : (Int8.ofInt (10)).toInt32 = (10 : Int32) := by decide
theorem kb_11 : (Int8.ofInt (11)).toInt32 = (11 : Int32) := by decide
theorem kb_15 : (Int8.ofInt (15)).toInt32 = (15 : Int32) := by decide
theorem kb_16 : (Int8.ofInt (16)).toInt32 = (16 : Int32) := by decide
theorem kb_19 : (Int8.ofInt (19)).toInt32 = (19 : Int32) := by decide
theorem kb_20 : (Int8.ofInt (20)).toInt32 = (20 : Int32) := by decide
theorem kb_21 : (Int8.ofInt (21)).toInt32 = (21 : Int32) := by decide
theorem kb_24 : (Int8.ofInt (24)).toInt32 = (24 : Int32) := by decide
theorem kb_25 : (Int8.ofInt (25)).toInt32 = (25 : Int32) := by decide
theorem kb_30 : (Int8.ofInt (30)).toInt32 = (30 : Int32) := by decide
theorem kb_31 : (Int8.ofInt (31)).toInt32 = (31 : Int32) := by decide
theorem kb_32 : (Int8.ofInt (32)).toInt32 = (32 : Int32) := by decide
theorem kb_45 : (Int8.ofInt (45)).toInt32 = (45 : Int32) := by decide
theorem kb_48 : (Int8.ofInt (48)).toInt32 = (48 : Int32) := by decide
theorem kb_57 : (Int8.ofInt (57)).toInt32 = (57 : Int32) := by decide
theorem kb_59 : (Int8.ofInt (59)).toInt32 = (59 : Int32) := by decide
theorem kb_60 : (Int8.ofInt (60)).toInt32 = (60 : Int32) := by decide
theorem kb_61 : (Int8.ofInt (61)).toInt32 = (61 : Int32) := by decide
theorem kb_62 : (Int8.ofInt (62)).toInt32 = (62 : Int32) := by decide
theorem kb_63 : (Int8.ofInt (63)).toInt32 = (63 : Int32) := by decide
theorem kb_65 : (Int8.ofInt (65)).toInt32 = (65 : Int32) := by decide
theorem kb_69 : (Int8.ofInt (69)).toInt32 = (69 : Int32) := by decide
theorem kb_74 : (Int8.ofInt (74)).toInt32 = (74 : Int32) := by decide
theorem kb_79 : (Int8.ofInt (79)).toInt32 = (79 : Int32) := by decide
theorem kb_84 : (Int8.ofInt (84)).toInt32 = (84 : Int32) := by decide
theorem kb_85 : (Int8.ofInt (85)).toInt32 = (85 : Int32) := by decide
theorem kb_86 : (Int8.ofInt (86)).toInt32 = (86 : Int32) := by decide
theorem kb_97 : (Int8.ofInt (97)).toInt32 = (97 : Int32) := by decide
theorem kb_98 : (Int8.ofInt (98)).toInt32 = (98 : Int32) := by decide
theorem kb_99 : (Int8.ofInt (99)).toInt32 = (99 : Int32) := by decide
theorem kb_100 : (Int8.ofInt (100)).toInt32 = (100 : Int32) := by decide
theorem kb_101 : (Int8.ofInt (101)).toInt32 = (101 : Int32) := by decide
theorem kb_102 : (Int8.ofInt (102)).toInt32 = (102 : Int32) := by decide
theorem kb_103 : (Int8.ofInt (103)).toInt32 = (103 : Int32) := by decide
theorem kb_104 : (Int8.ofInt (104)).toInt32 = (104 : Int32) := by decide
theorem kb_105 : (Int8.ofInt (105)).toInt32 = (105 : Int32) := by decide
theorem kb_107 : (Int8.ofInt (107)).toInt32 = (107 : Int32) := by decide
theorem kb_108 : (Int8.ofInt (108)).toInt32 = (108 : Int32) := by decide
theorem kb_109 : (Int8.ofInt (109)).toInt32 = (109 : Int32) := by decide
theorem kb_110 : (Int8.ofInt (110)).toInt32 = (110 : Int32) := by decide
theorem kb_111 : (Int8.ofInt (111)).toInt32 = (111 : Int32) := by decide
theorem kb_112 : (Int8.ofInt (112)).toInt32 = (112 : Int32) := by decide
theorem kb_114 : (Int8.ofInt (114)).toInt32 = (114 : Int32) := by decide
theorem kb_115 : (Int8.ofInt (115)).toInt32 = (115 : Int32) := by decide
theorem kb_116 : (Int8.ofInt (116)).toInt32 = (116 : Int32) := by decide
theorem kb_117 : (Int8.ofInt (117)).toInt32 = (117 : Int32) := by decide
theorem kb_119 : (Int8.ofInt (119)).toInt32 = (119 : Int32) := by decide
theorem kb_121 : (Int8.ofInt (121)).toInt32 = (121 : Int32) := by decide
theorem kb_122 : (Int8.ofInt (122)).toInt32 = (122 : Int32) := by decide
theorem ki_m8 : Int32.ofInt (-8) = (-8 : Int32) := by decide
theorem ki_m1 : Int32.ofInt (-1) = (-1 : Int32) := by decide
theorem ki_0 : Int32.ofInt (0) = (0 : Int32) := by decide
theorem ki_1 : Int32.ofInt (1) = (1 : Int32) := by decide
theorem ki_2 : Int32.ofInt (2) = (2 : Int32) := by decide
theorem ki_3 : Int32.ofInt (3) = (3 : Int32) := by decide
theorem ki_4 : Int32.ofInt (4) = (4 : Int32) := by decide
theorem ki_5 : Int32.ofInt (5) = (5 : Int32) := by decide
theorem ki_8 : Int32.ofInt (8) = (8 : Int32) := by decide
theorem ki_16 : Int32.ofInt (16) = (16 : Int32) := by decide
theorem kl_0 : Int64.ofNat ((0 : Fin 2) : Nat) = (0 : Int64) := by decide
theorem kl_1 : Int64.ofNat ((1 : Fin 2) : Nat) = (1 : Int64) := by decide
theorem ks_255 : (Int16.ofInt (255)).toInt32 = (255 : Int32) := by decide
theorem ks_256 : (Int16.ofInt (256)).toInt32 = (256 : Int32) := by decide
theorem ks_300 : (Int16.ofInt (300)).toInt32 = (300 : Int32) := by decide
theorem ks_356 : (Int16.ofInt (356)).toInt32 = (356 : Int32) := by decide
theorem ks_900 : (Int16.ofInt (900)).toInt32 = (900 : Int32) := by decide
theorem ks_1024 : (Int16.ofInt (1024)).toInt32 = (1024 : Int32) := by decide
theorem ks_1140 : (Int16.ofInt (1140)).toInt32 = (1140 : Int32) := by decide
theorem ks_1424 : (Int16.ofInt (1424)).toInt32 = (1424 : Int32) := by decide
theorem ks_1425 : (Int16.ofInt (1425)).toInt32 = (1425 : Int32) := by decide
theorem ks_1489 : (Int16.ofInt (1489)).toInt32 = (1489 : Int32) := by decide
theorem ks_1510 : (Int16.ofInt (1510)).toInt32 = (1510 : Int32) := by decide
theorem ks_2971 : (Int16.ofInt (2971)).toInt32 = (2971 : Int32) := by decide
theorem ks_9999 : (Int16.ofInt (9999)).toInt32 = (9999 : Int32) := by decide
theorem ks_10000 : (Int16.ofInt (10000)).toInt32 = (10000 : Int32) := by decide
theorem ks_10987 : (Int16.ofInt (10987)).toInt32 = (10987 : Int32) := by decide
theorem ks_30000 : (Int16.ofInt (30000)).toInt32 = (30000 : Int32) := by decide

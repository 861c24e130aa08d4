theorem yv11_ask : YV yX11_ask cX11_ask 4 (some .int) 3 := ⟨mw5 188 (by decide +kernel) rfl, mw5 189 (by decide +kernel) rfl, mw1 1 (by decide +kernel) rfl, mw5 190 (by decide +kernel) rfl, by decide, by decide, by decide, by decide +kernel⟩
theorem yv11_back : YV yX11_back cX11_back 1 (some .int) 0 := ⟨mw6 90 (by decide +kernel) rfl, mw6 91 (by decide +kernel) rfl, mw1 1 (by decide +kernel) rfl, mw6 92 (by decide +kernel) rfl, by decide, by decide, by decide, by decide +kernel⟩
theorem yv11_balance : YV yX11_balance cX11_balance 2 (some .int) 0 := ⟨mw5 197 (by decide +kernel) rfl, mw5 198 (by decide +kernel) rfl, mw1 1 (by decide +kernel) rfl, mw5 199 (by decide +kernel) rfl, by decide, by decide, by decide, by decide +kernel⟩
theorem yv11_balanceSet : YV yX11_balanceSet cX11_balanceSet 2 (some .int) 0 := ⟨mw5 222 (by decide +kernel) rfl, mw5 223 (by decide +kernel) rfl, mw1 1 (by decide +kernel) rfl, mw5 224 (by decide +kernel) rfl, by decide, by decide, by decide, by decide +kernel⟩
theorem yv11_bestOf : YV yX11_bestOf cX11_bestOf 3 (some .int) 2 := ⟨mw5 79 (by decide +kernel) rfl, mw5 80 (by decide +kernel) rfl, mw1 1 (by decide +kernel) rfl, mw5 81 (by decide +kernel) rfl, by decide, by decide, by decide, by decide +kernel⟩
theorem yv11_bet : YV yX11_bet cX11_bet 3 (some .int) 2 := ⟨mw4 78 (by decide +kernel) rfl, mw4 79 (by decide +kernel) rfl, mw1 1 (by decide +kernel) rfl, mw4 80 (by decide +kernel) rfl, by decide, by decide, by decide, by decide +kernel⟩
theorem yv11_birthday : YV yX11_birthday cX11_birthday 3 (some .int) 2 := ⟨mw5 119 (by decide +kernel) rfl, mw5 120 (by decide +kernel) rfl, mw1 1 (by decide +kernel) rfl, mw5 121 (by decide +kernel) rfl, by decide, by decide, by decide, by decide +kernel⟩
theorem yv11_bottom : YV yX11_bottom cX11_bottom 1 (some .long) 0 := ⟨mw2 148 (by decide +kernel) rfl, mw2 149 (by decide +kernel) rfl, mw1 1 (by decide +kernel) rfl, mw2 150 (by decide +kernel) rfl, by decide, by decide, by decide, by decide +kernel⟩
theorem yv11_colourings : YV yX11_colourings cX11_colourings 4 (some .int) 3 := ⟨mw5 152 (by decide +kernel) rfl, mw5 153 (by decide +kernel) rfl, mw1 1 (by decide +kernel) rfl, mw5 154 (by decide +kernel) rfl, by decide, by decide, by decide, by decide +kernel⟩
theorem yv11_compare : YV yX11_compare cX11_compare 3 (some .int) 2 := ⟨mw5 2 (by decide +kernel) rfl, mw5 3 (by decide +kernel) rfl, mw1 1 (by decide +kernel) rfl, mw5 4 (by decide +kernel) rfl, by decide, by decide, by decide, by decide +kernel⟩
theorem yv11_copyColours : YV yX11_copyColours cX11_copyColours 3 (some .int) 1 := ⟨mw4 94 (by decide +kernel) rfl, mw4 95 (by decide +kernel) rfl, mw1 1 (by decide +kernel) rfl, mw4 96 (by decide +kernel) rfl, by decide, by decide, by decide, by decide +kernel⟩
theorem yv11_cut : YV yX11_cut cX11_cut 3 (some .int) 2 := ⟨mw4 99 (by decide +kernel) rfl, mw4 100 (by decide +kernel) rfl, mw1 1 (by decide +kernel) rfl, mw4 101 (by decide +kernel) rfl, by decide, by decide, by decide, by decide +kernel⟩
theorem yv11_fault : YV yX11_fault cX11_fault 2 (some .int) 1 := ⟨mw4 35 (by decide +kernel) rfl, mw4 36 (by decide +kernel) rfl, mw1 1 (by decide +kernel) rfl, mw4 37 (by decide +kernel) rfl, by decide, by decide, by decide, by decide +kernel⟩
theorem yv11_feed : YV yX11_feed cX11_feed 6 (some .int) 5 := ⟨mw2 227 (by decide +kernel) rfl, mw2 228 (by decide +kernel) rfl, mw1 1 (by decide +kernel) rfl, mw2 229 (by decide +kernel) rfl, by decide, by decide, by decide, by decide +kernel⟩
theorem yv11_firstRed : YV yX11_firstRed cX11_firstRed 4 (some .int) 3 := ⟨mw5 179 (by decide +kernel) rfl, mw5 180 (by decide +kernel) rfl, mw1 1 (by decide +kernel) rfl, mw5 181 (by decide +kernel) rfl, by decide, by decide, by decide, by decide +kernel⟩
theorem yv11_grow : YV yX11_grow cX11_grow 3 (some .int) 2 := ⟨mw4 160 (by decide +kernel) rfl, mw4 161 (by decide +kernel) rfl, mw1 1 (by decide +kernel) rfl, mw4 162 (by decide +kernel) rfl, by decide, by decide, by decide, by decide +kernel⟩
theorem yv11_heap : YV yX11_heap cX11_heap 2 (some .int) 1 := ⟨mw4 70 (by decide +kernel) rfl, mw4 71 (by decide +kernel) rfl, mw1 1 (by decide +kernel) rfl, mw4 72 (by decide +kernel) rfl, by decide, by decide, by decide, by decide +kernel⟩
theorem yv11_heat : YV yX11_heat cX11_heat 4 (some .boolean) 2 := ⟨mw5 93 (by decide +kernel) rfl, mw5 94 (by decide +kernel) rfl, mw1 1 (by decide +kernel) rfl, mw5 95 (by decide +kernel) rfl, by decide, by decide, by decide, by decide +kernel⟩
theorem yv11_hedge : YV yX11_hedge cX11_hedge 2 (some .int) 1 := ⟨mw3 0 (by decide +kernel) rfl, mw3 1 (by decide +kernel) rfl, mw1 1 (by decide +kernel) rfl, mw3 2 (by decide +kernel) rfl, by decide, by decide, by decide, by decide +kernel⟩
theorem yv11_hottest : YV yX11_hottest cX11_hottest 2 (some .int) 0 := ⟨mw5 88 (by decide +kernel) rfl, mw5 89 (by decide +kernel) rfl, mw1 1 (by decide +kernel) rfl, mw5 90 (by decide +kernel) rfl, by decide, by decide, by decide, by decide +kernel⟩
theorem yv11_less : YV yX11_less cX11_less 3 (some .int) 2 := ⟨mw4 130 (by decide +kernel) rfl, mw4 131 (by decide +kernel) rfl, mw1 1 (by decide +kernel) rfl, mw4 132 (by decide +kernel) rfl, by decide, by decide, by decide, by decide +kernel⟩
theorem yv11_live : YV yX11_live cX11_live 2 (some .int) 1 := ⟨mw6 13 (by decide +kernel) rfl, mw6 14 (by decide +kernel) rfl, mw1 1 (by decide +kernel) rfl, mw6 15 (by decide +kernel) rfl, by decide, by decide, by decide, by decide +kernel⟩
theorem yv11_lived : YV yX11_lived cX11_lived 2 (some .int) 1 := ⟨mw6 78 (by decide +kernel) rfl, mw6 79 (by decide +kernel) rfl, mw1 1 (by decide +kernel) rfl, mw6 80 (by decide +kernel) rfl, by decide, by decide, by decide, by decide +kernel⟩
theorem yv11_luck : YV yX11_luck cX11_luck 2 (some .boolean) 1 := ⟨mw5 226 (by decide +kernel) rfl, mw5 227 (by decide +kernel) rfl, mw1 1 (by decide +kernel) rfl, mw5 228 (by decide +kernel) rfl, by decide, by decide, by decide, by decide +kernel⟩
theorem yv11_many : YV yX11_many cX11_many 2 (some .int) 1 := ⟨mw4 39 (by decide +kernel) rfl, mw4 40 (by decide +kernel) rfl, mw1 1 (by decide +kernel) rfl, mw4 41 (by decide +kernel) rfl, by decide, by decide, by decide, by decide +kernel⟩
theorem yv11_mark : YV yX11_mark cX11_mark 1 (some .int) 0 := ⟨mw6 86 (by decide +kernel) rfl, mw6 87 (by decide +kernel) rfl, mw1 1 (by decide +kernel) rfl, mw6 88 (by decide +kernel) rfl, by decide, by decide, by decide, by decide +kernel⟩
theorem yv11_mean : YV yX11_mean cX11_mean 6 (some .boolean) 2 := ⟨mw6 82 (by decide +kernel) rfl, mw6 83 (by decide +kernel) rfl, mw1 1 (by decide +kernel) rfl, mw6 84 (by decide +kernel) rfl, by decide, by decide, by decide, by decide +kernel⟩
theorem yv11_moves : YV yX11_moves cX11_moves 2 (some .int) 1 := ⟨mw5 42 (by decide +kernel) rfl, mw5 43 (by decide +kernel) rfl, mw1 1 (by decide +kernel) rfl, mw5 44 (by decide +kernel) rfl, by decide, by decide, by decide, by decide +kernel⟩
theorem yv11_nimOf : YV yX11_nimOf cX11_nimOf 2 (some .int) 1 := ⟨mw4 233 (by decide +kernel) rfl, mw4 234 (by decide +kernel) rfl, mw1 1 (by decide +kernel) rfl, mw4 235 (by decide +kernel) rfl, by decide, by decide, by decide, by decide +kernel⟩
theorem yv11_nimber : YV yX11_nimber cX11_nimber 1 (some .int) 0 := ⟨mw4 229 (by decide +kernel) rfl, mw4 230 (by decide +kernel) rfl, mw1 1 (by decide +kernel) rfl, mw4 231 (by decide +kernel) rfl, by decide, by decide, by decide, by decide +kernel⟩
theorem yv11_oddsBlue : YV yX11_oddsBlue cX11_oddsBlue 5 (some .boolean) 4 := ⟨mw5 183 (by decide +kernel) rfl, mw5 184 (by decide +kernel) rfl, mw1 1 (by decide +kernel) rfl, mw5 185 (by decide +kernel) rfl, by decide, by decide, by decide, by decide +kernel⟩
theorem yv11_offer : YV yX11_offer cX11_offer 3 (some .int) 2 := ⟨mw4 183 (by decide +kernel) rfl, mw4 184 (by decide +kernel) rfl, mw1 1 (by decide +kernel) rfl, mw4 185 (by decide +kernel) rfl, by decide, by decide, by decide, by decide +kernel⟩
theorem yv11_outcome : YV yX11_outcome cX11_outcome 3 (some .int) 0 := ⟨mw5 9 (by decide +kernel) rfl, mw5 10 (by decide +kernel) rfl, mw1 1 (by decide +kernel) rfl, mw5 11 (by decide +kernel) rfl, by decide, by decide, by decide, by decide +kernel⟩
theorem yv11_paint : YV yX11_paint cX11_paint 2 (some .int) 1 := ⟨mw4 170 (by decide +kernel) rfl, mw4 171 (by decide +kernel) rfl, mw1 1 (by decide +kernel) rfl, mw4 172 (by decide +kernel) rfl, by decide, by decide, by decide, by decide +kernel⟩
theorem yv11_pile : YV yX11_pile cX11_pile 2 (some .int) 1 := ⟨mw4 178 (by decide +kernel) rfl, mw4 179 (by decide +kernel) rfl, mw1 1 (by decide +kernel) rfl, mw4 180 (by decide +kernel) rfl, by decide, by decide, by decide, by decide +kernel⟩
theorem yv11_pour : YV yX11_pour cX11_pour 6 (some .boolean) 5 := ⟨mw2 212 (by decide +kernel) rfl, mw2 213 (by decide +kernel) rfl, mw1 1 (by decide +kernel) rfl, mw2 214 (by decide +kernel) rfl, by decide, by decide, by decide, by decide +kernel⟩
theorem yv11_read : YV yX11_read cX11_read 4 (some .long) 2 := ⟨mw2 199 (by decide +kernel) rfl, mw2 200 (by decide +kernel) rfl, mw1 1 (by decide +kernel) rfl, mw2 201 (by decide +kernel) rfl, by decide, by decide, by decide, by decide +kernel⟩
theorem yv11_seasons : YV yX11_seasons cX11_seasons 2 (some .int) 1 := ⟨mw3 190 (by decide +kernel) rfl, mw3 191 (by decide +kernel) rfl, mw1 1 (by decide +kernel) rfl, mw3 192 (by decide +kernel) rfl, by decide, by decide, by decide, by decide +kernel⟩
theorem yv11_simplest : YV yX11_simplest cX11_simplest 9 (some .boolean) 4 := ⟨mw5 98 (by decide +kernel) rfl, mw5 99 (by decide +kernel) rfl, mw1 1 (by decide +kernel) rfl, mw5 100 (by decide +kernel) rfl, by decide, by decide, by decide, by decide +kernel⟩
theorem yv11_spend : YV yX11_spend cX11_spend 2 (some .int) 1 := ⟨mw4 148 (by decide +kernel) rfl, mw4 149 (by decide +kernel) rfl, mw1 1 (by decide +kernel) rfl, mw4 150 (by decide +kernel) rfl, by decide, by decide, by decide, by decide +kernel⟩
theorem yv11_sprig : YV yX11_sprig cX11_sprig 4 (some .int) 2 := ⟨mw4 43 (by decide +kernel) rfl, mw4 44 (by decide +kernel) rfl, mw1 1 (by decide +kernel) rfl, mw4 45 (by decide +kernel) rfl, by decide, by decide, by decide, by decide +kernel⟩
theorem yv11_stalkAt : YV yX11_stalkAt cX11_stalkAt 5 (some .int) 3 := ⟨mw5 138 (by decide +kernel) rfl, mw5 139 (by decide +kernel) rfl, mw1 1 (by decide +kernel) rfl, mw5 140 (by decide +kernel) rfl, by decide, by decide, by decide, by decide +kernel⟩
theorem yv11_stalkWorth : YV yX11_stalkWorth cX11_stalkWorth 8 (some .boolean) 2 := ⟨mw5 147 (by decide +kernel) rfl, mw5 148 (by decide +kernel) rfl, mw1 1 (by decide +kernel) rfl, mw5 149 (by decide +kernel) rfl, by decide, by decide, by decide, by decide +kernel⟩
theorem yv11_status : YV yX11_status cX11_status 1 (some .int) 0 := ⟨mw2 140 (by decide +kernel) rfl, mw2 141 (by decide +kernel) rfl, mw1 1 (by decide +kernel) rfl, mw2 142 (by decide +kernel) rfl, by decide, by decide, by decide, by decide +kernel⟩
theorem yv11_stop : YV yX11_stop cX11_stop 2 (some .boolean) 1 := ⟨mw5 83 (by decide +kernel) rfl, mw5 84 (by decide +kernel) rfl, mw1 1 (by decide +kernel) rfl, mw5 85 (by decide +kernel) rfl, by decide, by decide, by decide, by decide +kernel⟩
theorem yv11_take : YV yX11_take cX11_take 3 (some .int) 2 := ⟨mw4 113 (by decide +kernel) rfl, mw4 114 (by decide +kernel) rfl, mw1 1 (by decide +kernel) rfl, mw4 115 (by decide +kernel) rfl, by decide, by decide, by decide, by decide +kernel⟩
theorem yv11_top : YV yX11_top cX11_top 1 (some .long) 0 := ⟨mw2 144 (by decide +kernel) rfl, mw2 145 (by decide +kernel) rfl, mw1 1 (by decide +kernel) rfl, mw2 146 (by decide +kernel) rfl, by decide, by decide, by decide, by decide +kernel⟩
theorem yv11_tray : YV yX11_tray cX11_tray 4 (some .boolean) 3 := ⟨mw2 152 (by decide +kernel) rfl, mw2 153 (by decide +kernel) rfl, mw1 1 (by decide +kernel) rfl, mw2 154 (by decide +kernel) rfl, by decide, by decide, by decide, by decide +kernel⟩
theorem yv11_winner : YV yX11_winner cX11_winner 2 (some .int) 1 := ⟨mw5 37 (by decide +kernel) rfl, mw5 38 (by decide +kernel) rfl, mw1 1 (by decide +kernel) rfl, mw5 39 (by decide +kernel) rfl, by decide, by decide, by decide, by decide +kernel⟩
theorem yv11_wins : YV yX11_wins cX11_wins 2 (some .int) 1 := ⟨mw5 75 (by decide +kernel) rfl, mw5 76 (by decide +kernel) rfl, mw1 1 (by decide +kernel) rfl, mw5 77 (by decide +kernel) rfl, by decide, by decide, by decide, by decide +kernel⟩
theorem yv11_worth : YV yX11_worth cX11_worth 1 (some .boolean) 0 := ⟨mw4 191 (by decide +kernel) rfl, mw4 192 (by decide +kernel) rfl, mw1 1 (by decide +kernel) rfl, mw4 193 (by decide +kernel) rfl, by decide, by decide, by decide, by decide +kernel⟩
theorem yv11_worthOf : YV yX11_worthOf cX11_worthOf 2 (some .boolean) 1 := ⟨mw4 219 (by decide +kernel) rfl, mw4 220 (by decide +kernel) rfl, mw1 1 (by decide +kernel) rfl, mw4 221 (by decide +kernel) rfl, by decide, by decide, by decide, by decide +kernel⟩
theorem yv11_write : YV yX11_write cX11_write 6 (some .boolean) 3 := ⟨mw2 175 (by decide +kernel) rfl, mw2 176 (by decide +kernel) rfl, mw1 1 (by decide +kernel) rfl, mw2 177 (by decide +kernel) rfl, by decide, by decide, by decide, by decide +kernel⟩
theorem yv12_ask : YV yX12_ask cX12_ask 8 (some .int) 3 := ⟨mw9 40 (by decide +kernel) rfl, mw9 41 (by decide +kernel) rfl, mw1 10 (by decide +kernel) rfl, mw9 42 (by decide +kernel) rfl, by decide, by decide, by decide, by decide +kernel⟩
theorem yv12_back : YV yX12_back cX12_back 1 (some .int) 0 := ⟨mw9 130 (by decide +kernel) rfl, mw9 131 (by decide +kernel) rfl, mw1 10 (by decide +kernel) rfl, mw9 132 (by decide +kernel) rfl, by decide, by decide, by decide, by decide +kernel⟩
theorem yv12_balance : YV yX12_balance cX12_balance 2 (some .int) 0 := ⟨mw9 44 (by decide +kernel) rfl, mw9 45 (by decide +kernel) rfl, mw1 10 (by decide +kernel) rfl, mw9 46 (by decide +kernel) rfl, by decide, by decide, by decide, by decide +kernel⟩
theorem yv12_balanceSet : YV yX12_balanceSet cX12_balanceSet 2 (some .int) 0 := ⟨mw9 56 (by decide +kernel) rfl, mw9 57 (by decide +kernel) rfl, mw1 10 (by decide +kernel) rfl, mw9 58 (by decide +kernel) rfl, by decide, by decide, by decide, by decide +kernel⟩
theorem yv12_bestOf : YV yX12_bestOf cX12_bestOf 3 (some .int) 2 := ⟨mw8 206 (by decide +kernel) rfl, mw8 207 (by decide +kernel) rfl, mw1 10 (by decide +kernel) rfl, mw8 208 (by decide +kernel) rfl, by decide, by decide, by decide, by decide +kernel⟩
theorem yv12_bet : YV yX12_bet cX12_bet 3 (some .int) 2 := ⟨mw8 34 (by decide +kernel) rfl, mw8 35 (by decide +kernel) rfl, mw1 10 (by decide +kernel) rfl, mw8 36 (by decide +kernel) rfl, by decide, by decide, by decide, by decide +kernel⟩
theorem yv12_birthday : YV yX12_birthday cX12_birthday 7 (some .int) 2 := ⟨mw8 235 (by decide +kernel) rfl, mw8 236 (by decide +kernel) rfl, mw1 10 (by decide +kernel) rfl, mw8 237 (by decide +kernel) rfl, by decide, by decide, by decide, by decide +kernel⟩
theorem yv12_bottom : YV yX12_bottom cX12_bottom 1 (some .long) 0 := ⟨mw7 7 (by decide +kernel) rfl, mw7 8 (by decide +kernel) rfl, mw1 10 (by decide +kernel) rfl, mw7 9 (by decide +kernel) rfl, by decide, by decide, by decide, by decide +kernel⟩
theorem yv12_colourings : YV yX12_colourings cX12_colourings 4 (some .int) 3 := ⟨mw9 16 (by decide +kernel) rfl, mw9 17 (by decide +kernel) rfl, mw1 10 (by decide +kernel) rfl, mw9 18 (by decide +kernel) rfl, by decide, by decide, by decide, by decide +kernel⟩
theorem yv12_compare : YV yX12_compare cX12_compare 3 (some .int) 2 := ⟨mw8 95 (by decide +kernel) rfl, mw8 96 (by decide +kernel) rfl, mw1 10 (by decide +kernel) rfl, mw8 97 (by decide +kernel) rfl, by decide, by decide, by decide, by decide +kernel⟩
theorem yv12_copyColours : YV yX12_copyColours cX12_copyColours 3 (some .int) 1 := ⟨mw8 45 (by decide +kernel) rfl, mw8 46 (by decide +kernel) rfl, mw1 10 (by decide +kernel) rfl, mw8 47 (by decide +kernel) rfl, by decide, by decide, by decide, by decide +kernel⟩
theorem yv12_cut : YV yX12_cut cX12_cut 4 (some .int) 2 := ⟨mw8 99 (by decide +kernel) rfl, mw8 100 (by decide +kernel) rfl, mw1 10 (by decide +kernel) rfl, mw8 101 (by decide +kernel) rfl, by decide, by decide, by decide, by decide +kernel⟩
theorem yv12_fault : YV yX12_fault cX12_fault 2 (some .int) 1 := ⟨mw7 51 (by decide +kernel) rfl, mw7 52 (by decide +kernel) rfl, mw1 10 (by decide +kernel) rfl, mw7 53 (by decide +kernel) rfl, by decide, by decide, by decide, by decide +kernel⟩
theorem yv12_feed : YV yX12_feed cX12_feed 6 (some .int) 5 := ⟨mw7 43 (by decide +kernel) rfl, mw7 44 (by decide +kernel) rfl, mw1 10 (by decide +kernel) rfl, mw7 45 (by decide +kernel) rfl, by decide, by decide, by decide, by decide +kernel⟩
theorem yv12_firstRed : YV yX12_firstRed cX12_firstRed 4 (some .int) 3 := ⟨mw9 32 (by decide +kernel) rfl, mw9 33 (by decide +kernel) rfl, mw1 10 (by decide +kernel) rfl, mw9 34 (by decide +kernel) rfl, by decide, by decide, by decide, by decide +kernel⟩
theorem yv12_grow : YV yX12_grow cX12_grow 3 (some .int) 2 := ⟨mw8 140 (by decide +kernel) rfl, mw8 141 (by decide +kernel) rfl, mw1 10 (by decide +kernel) rfl, mw8 142 (by decide +kernel) rfl, by decide, by decide, by decide, by decide +kernel⟩
theorem yv12_heap : YV yX12_heap cX12_heap 2 (some .int) 1 := ⟨mw8 26 (by decide +kernel) rfl, mw8 27 (by decide +kernel) rfl, mw1 10 (by decide +kernel) rfl, mw8 28 (by decide +kernel) rfl, by decide, by decide, by decide, by decide +kernel⟩
theorem yv12_heat : YV yX12_heat cX12_heat 3 (some .boolean) 2 := ⟨mw8 218 (by decide +kernel) rfl, mw8 219 (by decide +kernel) rfl, mw1 10 (by decide +kernel) rfl, mw8 220 (by decide +kernel) rfl, by decide, by decide, by decide, by decide +kernel⟩
theorem yv12_hedge : YV yX12_hedge cX12_hedge 3 (some .int) 1 := ⟨mw7 55 (by decide +kernel) rfl, mw7 56 (by decide +kernel) rfl, mw1 10 (by decide +kernel) rfl, mw7 57 (by decide +kernel) rfl, by decide, by decide, by decide, by decide +kernel⟩
theorem yv12_hottest : YV yX12_hottest cX12_hottest 2 (some .int) 0 := ⟨mw8 214 (by decide +kernel) rfl, mw8 215 (by decide +kernel) rfl, mw1 10 (by decide +kernel) rfl, mw8 216 (by decide +kernel) rfl, by decide, by decide, by decide, by decide +kernel⟩
theorem yv12_less : YV yX12_less cX12_less 3 (some .int) 2 := ⟨mw8 123 (by decide +kernel) rfl, mw8 124 (by decide +kernel) rfl, mw1 10 (by decide +kernel) rfl, mw8 125 (by decide +kernel) rfl, by decide, by decide, by decide, by decide +kernel⟩
theorem yv12_live : YV yX12_live cX12_live 2 (some .int) 1 := ⟨mw9 76 (by decide +kernel) rfl, mw9 77 (by decide +kernel) rfl, mw1 10 (by decide +kernel) rfl, mw9 78 (by decide +kernel) rfl, by decide, by decide, by decide, by decide +kernel⟩
theorem yv12_lived : YV yX12_lived cX12_lived 2 (some .int) 1 := ⟨mw9 118 (by decide +kernel) rfl, mw9 119 (by decide +kernel) rfl, mw1 10 (by decide +kernel) rfl, mw9 120 (by decide +kernel) rfl, by decide, by decide, by decide, by decide +kernel⟩
theorem yv12_luck : YV yX12_luck cX12_luck 4 (some .boolean) 1 := ⟨mw9 60 (by decide +kernel) rfl, mw9 61 (by decide +kernel) rfl, mw1 10 (by decide +kernel) rfl, mw9 62 (by decide +kernel) rfl, by decide, by decide, by decide, by decide +kernel⟩
theorem yv12_many : YV yX12_many cX12_many 2 (some .int) 1 := ⟨mw7 222 (by decide +kernel) rfl, mw7 223 (by decide +kernel) rfl, mw1 10 (by decide +kernel) rfl, mw7 224 (by decide +kernel) rfl, by decide, by decide, by decide, by decide +kernel⟩
theorem yv12_mark : YV yX12_mark cX12_mark 1 (some .int) 0 := ⟨mw9 126 (by decide +kernel) rfl, mw9 127 (by decide +kernel) rfl, mw1 10 (by decide +kernel) rfl, mw9 128 (by decide +kernel) rfl, by decide, by decide, by decide, by decide +kernel⟩
theorem yv12_mean : YV yX12_mean cX12_mean 7 (some .boolean) 2 := ⟨mw9 122 (by decide +kernel) rfl, mw9 123 (by decide +kernel) rfl, mw1 10 (by decide +kernel) rfl, mw9 124 (by decide +kernel) rfl, by decide, by decide, by decide, by decide +kernel⟩
theorem yv12_moves : YV yX12_moves cX12_moves 2 (some .int) 1 := ⟨mw8 190 (by decide +kernel) rfl, mw8 191 (by decide +kernel) rfl, mw1 10 (by decide +kernel) rfl, mw8 192 (by decide +kernel) rfl, by decide, by decide, by decide, by decide +kernel⟩
theorem yv12_nimOf : YV yX12_nimOf cX12_nimOf 2 (some .int) 1 := ⟨mw8 91 (by decide +kernel) rfl, mw8 92 (by decide +kernel) rfl, mw1 10 (by decide +kernel) rfl, mw8 93 (by decide +kernel) rfl, by decide, by decide, by decide, by decide +kernel⟩
theorem yv12_nimber : YV yX12_nimber cX12_nimber 1 (some .int) 0 := ⟨mw8 87 (by decide +kernel) rfl, mw8 88 (by decide +kernel) rfl, mw1 10 (by decide +kernel) rfl, mw8 89 (by decide +kernel) rfl, by decide, by decide, by decide, by decide +kernel⟩
theorem yv12_oddsBlue : YV yX12_oddsBlue cX12_oddsBlue 5 (some .boolean) 4 := ⟨mw9 36 (by decide +kernel) rfl, mw9 37 (by decide +kernel) rfl, mw1 10 (by decide +kernel) rfl, mw9 38 (by decide +kernel) rfl, by decide, by decide, by decide, by decide +kernel⟩
theorem yv12_offer : YV yX12_offer cX12_offer 3 (some .int) 2 := ⟨mw8 157 (by decide +kernel) rfl, mw8 158 (by decide +kernel) rfl, mw1 10 (by decide +kernel) rfl, mw8 159 (by decide +kernel) rfl, by decide, by decide, by decide, by decide +kernel⟩
theorem yv12_outcome : YV yX12_outcome cX12_outcome 3 (some .int) 0 := ⟨mw8 162 (by decide +kernel) rfl, mw8 163 (by decide +kernel) rfl, mw1 10 (by decide +kernel) rfl, mw8 164 (by decide +kernel) rfl, by decide, by decide, by decide, by decide +kernel⟩
theorem yv12_paint : YV yX12_paint cX12_paint 2 (some .int) 1 := ⟨mw8 149 (by decide +kernel) rfl, mw8 150 (by decide +kernel) rfl, mw1 10 (by decide +kernel) rfl, mw8 151 (by decide +kernel) rfl, by decide, by decide, by decide, by decide +kernel⟩
theorem yv12_pile : YV yX12_pile cX12_pile 3 (some .int) 1 := ⟨mw8 153 (by decide +kernel) rfl, mw8 154 (by decide +kernel) rfl, mw1 10 (by decide +kernel) rfl, mw8 155 (by decide +kernel) rfl, by decide, by decide, by decide, by decide +kernel⟩
theorem yv12_pour : YV yX12_pour cX12_pour 9 (some .boolean) 5 := ⟨mw7 39 (by decide +kernel) rfl, mw7 40 (by decide +kernel) rfl, mw1 10 (by decide +kernel) rfl, mw7 41 (by decide +kernel) rfl, by decide, by decide, by decide, by decide +kernel⟩
theorem yv12_read : YV yX12_read cX12_read 3 (some .long) 2 := ⟨mw7 34 (by decide +kernel) rfl, mw7 35 (by decide +kernel) rfl, mw1 10 (by decide +kernel) rfl, mw7 36 (by decide +kernel) rfl, by decide, by decide, by decide, by decide +kernel⟩
theorem yv12_seasons : YV yX12_seasons cX12_seasons 3 (some .int) 1 := ⟨mw7 186 (by decide +kernel) rfl, mw7 187 (by decide +kernel) rfl, mw1 10 (by decide +kernel) rfl, mw7 188 (by decide +kernel) rfl, by decide, by decide, by decide, by decide +kernel⟩
theorem yv12_simplest : YV yX12_simplest cX12_simplest 18 (some .boolean) 4 := ⟨mw8 222 (by decide +kernel) rfl, mw8 223 (by decide +kernel) rfl, mw1 10 (by decide +kernel) rfl, mw8 224 (by decide +kernel) rfl, by decide, by decide, by decide, by decide +kernel⟩
theorem yv12_spend : YV yX12_spend cX12_spend 2 (some .int) 1 := ⟨mw8 132 (by decide +kernel) rfl, mw8 133 (by decide +kernel) rfl, mw1 10 (by decide +kernel) rfl, mw8 134 (by decide +kernel) rfl, by decide, by decide, by decide, by decide +kernel⟩
theorem yv12_sprig : YV yX12_sprig cX12_sprig 3 (some .int) 2 := ⟨mw7 239 (by decide +kernel) rfl, mw8 0 (by decide +kernel) rfl, mw1 10 (by decide +kernel) rfl, mw8 1 (by decide +kernel) rfl, by decide, by decide, by decide, by decide +kernel⟩
theorem yv12_stalkAt : YV yX12_stalkAt cX12_stalkAt 7 (some .int) 3 := ⟨mw8 239 (by decide +kernel) rfl, mw9 0 (by decide +kernel) rfl, mw1 10 (by decide +kernel) rfl, mw9 1 (by decide +kernel) rfl, by decide, by decide, by decide, by decide +kernel⟩
theorem yv12_stalkWorth : YV yX12_stalkWorth cX12_stalkWorth 6 (some .boolean) 2 := ⟨mw9 8 (by decide +kernel) rfl, mw9 9 (by decide +kernel) rfl, mw1 10 (by decide +kernel) rfl, mw9 10 (by decide +kernel) rfl, by decide, by decide, by decide, by decide +kernel⟩
theorem yv12_status : YV yX12_status cX12_status 1 (some .int) 0 := ⟨mw6 239 (by decide +kernel) rfl, mw7 0 (by decide +kernel) rfl, mw1 10 (by decide +kernel) rfl, mw7 1 (by decide +kernel) rfl, by decide, by decide, by decide, by decide +kernel⟩
theorem yv12_stop : YV yX12_stop cX12_stop 2 (some .boolean) 1 := ⟨mw8 210 (by decide +kernel) rfl, mw8 211 (by decide +kernel) rfl, mw1 10 (by decide +kernel) rfl, mw8 212 (by decide +kernel) rfl, by decide, by decide, by decide, by decide +kernel⟩
theorem yv12_take : YV yX12_take cX12_take 3 (some .int) 2 := ⟨mw8 111 (by decide +kernel) rfl, mw8 112 (by decide +kernel) rfl, mw1 10 (by decide +kernel) rfl, mw8 113 (by decide +kernel) rfl, by decide, by decide, by decide, by decide +kernel⟩
theorem yv12_top : YV yX12_top cX12_top 1 (some .long) 0 := ⟨mw7 3 (by decide +kernel) rfl, mw7 4 (by decide +kernel) rfl, mw1 10 (by decide +kernel) rfl, mw7 5 (by decide +kernel) rfl, by decide, by decide, by decide, by decide +kernel⟩
theorem yv12_tray : YV yX12_tray cX12_tray 5 (some .boolean) 3 := ⟨mw7 11 (by decide +kernel) rfl, mw7 12 (by decide +kernel) rfl, mw1 10 (by decide +kernel) rfl, mw7 13 (by decide +kernel) rfl, by decide, by decide, by decide, by decide +kernel⟩
theorem yv12_winner : YV yX12_winner cX12_winner 2 (some .int) 1 := ⟨mw8 186 (by decide +kernel) rfl, mw8 187 (by decide +kernel) rfl, mw1 10 (by decide +kernel) rfl, mw8 188 (by decide +kernel) rfl, by decide, by decide, by decide, by decide +kernel⟩
theorem yv12_wins : YV yX12_wins cX12_wins 2 (some .int) 1 := ⟨mw8 202 (by decide +kernel) rfl, mw8 203 (by decide +kernel) rfl, mw1 10 (by decide +kernel) rfl, mw8 204 (by decide +kernel) rfl, by decide, by decide, by decide, by decide +kernel⟩
theorem yv12_worth : YV yX12_worth cX12_worth 1 (some .boolean) 0 := ⟨mw8 55 (by decide +kernel) rfl, mw8 56 (by decide +kernel) rfl, mw1 10 (by decide +kernel) rfl, mw8 57 (by decide +kernel) rfl, by decide, by decide, by decide, by decide +kernel⟩
theorem yv12_worthOf : YV yX12_worthOf cX12_worthOf 2 (some .boolean) 1 := ⟨mw8 79 (by decide +kernel) rfl, mw8 80 (by decide +kernel) rfl, mw1 10 (by decide +kernel) rfl, mw8 81 (by decide +kernel) rfl, by decide, by decide, by decide, by decide +kernel⟩
theorem mlL_13 : Cond.methodLink RL 13 yX11_status ∈ LW := mw2 139 (by decide +kernel) rfl
theorem mlL_17 : Cond.methodLink RL 17 yX12_status ∈ LW := mw6 238 (by decide +kernel) rfl
theorem mlL_18 : Cond.methodLink RL 18 yX11_top ∈ LW := mw2 143 (by decide +kernel) rfl
theorem mlL_22 : Cond.methodLink RL 22 yX12_top ∈ LW := mw7 2 (by decide +kernel) rfl
theorem mlL_23 : Cond.methodLink RL 23 yX11_bottom ∈ LW := mw2 147 (by decide +kernel) rfl
theorem mlL_26 : Cond.methodLink RL 26 yX12_bottom ∈ LW := mw7 6 (by decide +kernel) rfl
theorem mlL_27 : Cond.methodLink RL 27 yX11_tray ∈ LW := mw2 151 (by decide +kernel) rfl
theorem mlL_31 : Cond.methodLink RL 31 yX12_tray ∈ LW := mw7 10 (by decide +kernel) rfl
theorem mlL_34 : Cond.methodLink RL 34 yX11_write ∈ LW := mw2 174 (by decide +kernel) rfl
theorem mlL_38 : Cond.methodLink RL 38 yX12_write ∈ LW := mw7 18 (by decide +kernel) rfl
theorem mlL_39 : Cond.methodLink RL 39 yX11_read ∈ LW := mw2 198 (by decide +kernel) rfl
theorem mlL_43 : Cond.methodLink RL 43 yX12_read ∈ LW := mw7 33 (by decide +kernel) rfl
theorem mlL_44 : Cond.methodLink RL 44 yX11_pour ∈ LW := mw2 211 (by decide +kernel) rfl
theorem mlL_48 : Cond.methodLink RL 48 yX12_pour ∈ LW := mw7 38 (by decide +kernel) rfl
theorem mlL_49 : Cond.methodLink RL 49 yX11_feed ∈ LW := mw2 226 (by decide +kernel) rfl
theorem mlL_53 : Cond.methodLink RL 53 yX12_feed ∈ LW := mw7 42 (by decide +kernel) rfl
theorem mlL_54 : Cond.methodLink RL 54 yX11_hedge ∈ LW := mw2 239 (by decide +kernel) rfl
theorem mlL_58 : Cond.methodLink RL 58 yX12_hedge ∈ LW := mw7 54 (by decide +kernel) rfl
theorem mlL_59 : Cond.methodLink RL 59 yX11_seasons ∈ LW := mw3 189 (by decide +kernel) rfl
theorem mlL_62 : Cond.methodLink RL 62 yX12_seasons ∈ LW := mw7 185 (by decide +kernel) rfl
theorem mlL_63 : Cond.methodLink RL 63 yX11_fault ∈ LW := mw4 34 (by decide +kernel) rfl
theorem mlL_66 : Cond.methodLink RL 66 yX12_fault ∈ LW := mw7 50 (by decide +kernel) rfl
theorem mlL_67 : Cond.methodLink RL 67 yX11_many ∈ LW := mw4 38 (by decide +kernel) rfl
theorem mlL_70 : Cond.methodLink RL 70 yX12_many ∈ LW := mw7 221 (by decide +kernel) rfl
theorem mlL_71 : Cond.methodLink RL 71 yX11_sprig ∈ LW := mw4 42 (by decide +kernel) rfl
theorem mlL_75 : Cond.methodLink RL 75 yX12_sprig ∈ LW := mw7 238 (by decide +kernel) rfl
theorem mlL_76 : Cond.methodLink RL 76 yX11_heap ∈ LW := mw4 69 (by decide +kernel) rfl
theorem mlL_79 : Cond.methodLink RL 79 yX12_heap ∈ LW := mw8 25 (by decide +kernel) rfl
theorem mlL_80 : Cond.methodLink RL 80 yX11_bet ∈ LW := mw4 77 (by decide +kernel) rfl
theorem mlL_83 : Cond.methodLink RL 83 yX12_bet ∈ LW := mw8 33 (by decide +kernel) rfl
theorem mlL_84 : Cond.methodLink RL 84 yX11_copyColours ∈ LW := mw4 93 (by decide +kernel) rfl
theorem mlL_87 : Cond.methodLink RL 87 yX12_copyColours ∈ LW := mw8 44 (by decide +kernel) rfl
theorem mlL_88 : Cond.methodLink RL 88 yX11_cut ∈ LW := mw4 98 (by decide +kernel) rfl
theorem mlL_91 : Cond.methodLink RL 91 yX12_cut ∈ LW := mw8 98 (by decide +kernel) rfl
theorem mlL_92 : Cond.methodLink RL 92 yX11_take ∈ LW := mw4 112 (by decide +kernel) rfl
theorem mlL_95 : Cond.methodLink RL 95 yX12_take ∈ LW := mw8 110 (by decide +kernel) rfl
theorem mlL_96 : Cond.methodLink RL 96 yX11_less ∈ LW := mw4 129 (by decide +kernel) rfl
theorem mlL_99 : Cond.methodLink RL 99 yX12_less ∈ LW := mw8 122 (by decide +kernel) rfl
theorem mlL_100 : Cond.methodLink RL 100 yX11_spend ∈ LW := mw4 147 (by decide +kernel) rfl
theorem mlL_103 : Cond.methodLink RL 103 yX12_spend ∈ LW := mw8 131 (by decide +kernel) rfl
theorem mlL_104 : Cond.methodLink RL 104 yX11_grow ∈ LW := mw4 159 (by decide +kernel) rfl
theorem mlL_107 : Cond.methodLink RL 107 yX12_grow ∈ LW := mw8 139 (by decide +kernel) rfl
theorem mlL_108 : Cond.methodLink RL 108 yX11_paint ∈ LW := mw4 169 (by decide +kernel) rfl
theorem mlL_111 : Cond.methodLink RL 111 yX12_paint ∈ LW := mw8 148 (by decide +kernel) rfl
theorem mlL_112 : Cond.methodLink RL 112 yX11_pile ∈ LW := mw4 177 (by decide +kernel) rfl
theorem mlL_115 : Cond.methodLink RL 115 yX12_pile ∈ LW := mw8 152 (by decide +kernel) rfl
theorem mlL_116 : Cond.methodLink RL 116 yX11_offer ∈ LW := mw4 182 (by decide +kernel) rfl
theorem mlL_119 : Cond.methodLink RL 119 yX12_offer ∈ LW := mw8 156 (by decide +kernel) rfl
theorem mlL_120 : Cond.methodLink RL 120 yX11_worth ∈ LW := mw4 190 (by decide +kernel) rfl
theorem mlL_124 : Cond.methodLink RL 124 yX12_worth ∈ LW := mw8 54 (by decide +kernel) rfl
theorem mlL_125 : Cond.methodLink RL 125 yX11_worthOf ∈ LW := mw4 218 (by decide +kernel) rfl
theorem mlL_129 : Cond.methodLink RL 129 yX12_worthOf ∈ LW := mw8 78 (by decide +kernel) rfl
theorem mlL_130 : Cond.methodLink RL 130 yX11_nimber ∈ LW := mw4 228 (by decide +kernel) rfl
theorem mlL_133 : Cond.methodLink RL 133 yX12_nimber ∈ LW := mw8 86 (by decide +kernel) rfl
theorem mlL_134 : Cond.methodLink RL 134 yX11_nimOf ∈ LW := mw4 232 (by decide +kernel) rfl
theorem mlL_137 : Cond.methodLink RL 137 yX12_nimOf ∈ LW := mw8 90 (by decide +kernel) rfl
theorem mlL_138 : Cond.methodLink RL 138 yX11_compare ∈ LW := mw5 1 (by decide +kernel) rfl
theorem mlL_141 : Cond.methodLink RL 141 yX12_compare ∈ LW := mw8 94 (by decide +kernel) rfl
theorem mlL_142 : Cond.methodLink RL 142 yX11_outcome ∈ LW := mw5 8 (by decide +kernel) rfl
theorem mlL_145 : Cond.methodLink RL 145 yX12_outcome ∈ LW := mw8 161 (by decide +kernel) rfl
theorem mlL_146 : Cond.methodLink RL 146 yX11_winner ∈ LW := mw5 36 (by decide +kernel) rfl
theorem mlL_149 : Cond.methodLink RL 149 yX12_winner ∈ LW := mw8 185 (by decide +kernel) rfl
theorem mlL_150 : Cond.methodLink RL 150 yX11_moves ∈ LW := mw5 41 (by decide +kernel) rfl
theorem mlL_153 : Cond.methodLink RL 153 yX12_moves ∈ LW := mw8 189 (by decide +kernel) rfl
theorem mlL_154 : Cond.methodLink RL 154 yX11_wins ∈ LW := mw5 74 (by decide +kernel) rfl
theorem mlL_157 : Cond.methodLink RL 157 yX12_wins ∈ LW := mw8 201 (by decide +kernel) rfl
theorem mlL_158 : Cond.methodLink RL 158 yX11_bestOf ∈ LW := mw5 78 (by decide +kernel) rfl
theorem mlL_161 : Cond.methodLink RL 161 yX12_bestOf ∈ LW := mw8 205 (by decide +kernel) rfl
theorem mlL_162 : Cond.methodLink RL 162 yX11_stop ∈ LW := mw5 82 (by decide +kernel) rfl
theorem mlL_165 : Cond.methodLink RL 165 yX12_stop ∈ LW := mw8 209 (by decide +kernel) rfl
theorem mlL_166 : Cond.methodLink RL 166 yX11_hottest ∈ LW := mw5 87 (by decide +kernel) rfl
theorem mlL_169 : Cond.methodLink RL 169 yX12_hottest ∈ LW := mw8 213 (by decide +kernel) rfl
theorem mlL_170 : Cond.methodLink RL 170 yX11_heat ∈ LW := mw5 92 (by decide +kernel) rfl
theorem mlL_174 : Cond.methodLink RL 174 yX12_heat ∈ LW := mw8 217 (by decide +kernel) rfl
theorem mlL_175 : Cond.methodLink RL 175 yX11_simplest ∈ LW := mw5 97 (by decide +kernel) rfl
theorem mlL_179 : Cond.methodLink RL 179 yX12_simplest ∈ LW := mw8 221 (by decide +kernel) rfl
theorem mlL_180 : Cond.methodLink RL 180 yX11_birthday ∈ LW := mw5 118 (by decide +kernel) rfl
theorem mlL_183 : Cond.methodLink RL 183 yX12_birthday ∈ LW := mw8 234 (by decide +kernel) rfl
theorem mlL_184 : Cond.methodLink RL 184 yX11_stalkAt ∈ LW := mw5 137 (by decide +kernel) rfl
theorem mlL_188 : Cond.methodLink RL 188 yX12_stalkAt ∈ LW := mw8 238 (by decide +kernel) rfl
theorem mlL_189 : Cond.methodLink RL 189 yX11_stalkWorth ∈ LW := mw5 146 (by decide +kernel) rfl
theorem mlL_192 : Cond.methodLink RL 192 yX12_stalkWorth ∈ LW := mw9 7 (by decide +kernel) rfl
theorem mlL_193 : Cond.methodLink RL 193 yX11_colourings ∈ LW := mw5 151 (by decide +kernel) rfl
theorem mlL_196 : Cond.methodLink RL 196 yX12_colourings ∈ LW := mw9 15 (by decide +kernel) rfl
theorem mlL_197 : Cond.methodLink RL 197 yX11_firstRed ∈ LW := mw5 178 (by decide +kernel) rfl
theorem mlL_200 : Cond.methodLink RL 200 yX12_firstRed ∈ LW := mw9 31 (by decide +kernel) rfl
theorem mlL_201 : Cond.methodLink RL 201 yX11_oddsBlue ∈ LW := mw5 182 (by decide +kernel) rfl
theorem mlL_204 : Cond.methodLink RL 204 yX12_oddsBlue ∈ LW := mw9 35 (by decide +kernel) rfl
theorem mlL_205 : Cond.methodLink RL 205 yX11_ask ∈ LW := mw5 187 (by decide +kernel) rfl
theorem mlL_208 : Cond.methodLink RL 208 yX12_ask ∈ LW := mw9 39 (by decide +kernel) rfl
theorem mlL_209 : Cond.methodLink RL 209 yX11_balance ∈ LW := mw5 196 (by decide +kernel) rfl
theorem mlL_212 : Cond.methodLink RL 212 yX12_balance ∈ LW := mw9 43 (by decide +kernel) rfl
theorem mlL_213 : Cond.methodLink RL 213 yX11_balanceSet ∈ LW := mw5 221 (by decide +kernel) rfl
theorem mlL_216 : Cond.methodLink RL 216 yX12_balanceSet ∈ LW := mw9 55 (by decide +kernel) rfl
theorem mlL_217 : Cond.methodLink RL 217 yX11_luck ∈ LW := mw5 225 (by decide +kernel) rfl
theorem mlL_220 : Cond.methodLink RL 220 yX12_luck ∈ LW := mw9 59 (by decide +kernel) rfl
theorem mlL_221 : Cond.methodLink RL 221 yX11_live ∈ LW := mw6 12 (by decide +kernel) rfl
theorem mlL_224 : Cond.methodLink RL 224 yX12_live ∈ LW := mw9 75 (by decide +kernel) rfl
theorem mlL_225 : Cond.methodLink RL 225 yX11_lived ∈ LW := mw6 77 (by decide +kernel) rfl
theorem mlL_228 : Cond.methodLink RL 228 yX12_lived ∈ LW := mw9 117 (by decide +kernel) rfl
theorem mlL_229 : Cond.methodLink RL 229 yX11_mean ∈ LW := mw6 81 (by decide +kernel) rfl
theorem mlL_232 : Cond.methodLink RL 232 yX12_mean ∈ LW := mw9 121 (by decide +kernel) rfl
theorem mlL_233 : Cond.methodLink RL 233 yX11_mark ∈ LW := mw6 85 (by decide +kernel) rfl
theorem mlL_236 : Cond.methodLink RL 236 yX12_mark ∈ LW := mw9 125 (by decide +kernel) rfl
theorem mlL_237 : Cond.methodLink RL 237 yX11_back ∈ LW := mw6 89 (by decide +kernel) rfl
theorem mlL_240 : Cond.methodLink RL 240 yX12_back ∈ LW := mw9 129 (by decide +kernel) rfl
theorem klL_32 : Cond.constantLong RL 32 (4294967295 : Int64) ∈ LW := mw9 133 (by decide +kernel) rfl
theorem ki_6 : Int32.ofInt (6) = (6 : Int32) := by decide
theorem dL_law_0 : decode cL_law 0 = .ok (.new 7, 3) := by decide +kernel
theorem dL_law_3 : decode cL_law 3 = .ok (.dup, 1) := by decide +kernel
theorem dL_law_4 : decode cL_law 4 = .ok (.invokespecial 9, 3) := by decide +kernel
theorem dL_law_7 : decode cL_law 7 = .ok (.astore_n 1, 1) := by decide +kernel
theorem dL_law_8 : decode cL_law 8 = .ok (.new 10, 3) := by decide +kernel
theorem dL_law_11 : decode cL_law 11 = .ok (.dup, 1) := by decide +kernel
theorem dL_law_12 : decode cL_law 12 = .ok (.invokespecial 12, 3) := by decide +kernel
theorem dL_law_15 : decode cL_law 15 = .ok (.astore_n 2, 1) := by decide +kernel
theorem dL_law_16 : decode cL_law 16 = .ok (.iconst 0, 1) := by decide +kernel
theorem dL_law_17 : decode cL_law 17 = .ok (.istore_n 3, 1) := by decide +kernel
theorem dL_law_18 : decode cL_law 18 = .ok (.iload_n 3, 1) := by decide +kernel
theorem dL_law_19 : decode cL_law 19 = .ok (.aload_n 0, 1) := by decide +kernel
theorem dL_law_20 : decode cL_law 20 = .ok (.arraylength, 1) := by decide +kernel
theorem dL_law_21 : decode cL_law 21 = .ok (.bipush 6, 2) := by decide +kernel
theorem dL_law_23 : decode cL_law 23 = .ok (.isub, 1) := by decide +kernel
theorem dL_law_24 : decode cL_law 24 = .ok (.if_icmp .gt 1784, 3) := by decide +kernel
theorem dL_law_27 : decode cL_law 27 = .ok (.aload_n 0, 1) := by decide +kernel
theorem dL_law_28 : decode cL_law 28 = .ok (.iload_n 3, 1) := by decide +kernel
theorem dL_law_29 : decode cL_law 29 = .ok (.iaload, 1) := by decide +kernel
theorem dL_law_30 : decode cL_law 30 = .ok (.bipush 63, 2) := by decide +kernel
theorem dL_law_32 : decode cL_law 32 = .ok (.iand, 1) := by decide +kernel
theorem dL_law_33 : decode cL_law 33 = .ok (.tableswitch 1769 0 52 #[227, 240, 254, 268, 311, 384, 418, 481, 544, 567, 590, 613, 636, 669, 692, 725, 748, 781, 814, 847, 870, 903, 926, 949, 982, 995, 1018, 1031, 1054, 1087, 1100, 1123, 1146, 1169, 1202, 1225, 1238, 1271, 1324, 1357, 1400, 1433, 1476, 1519, 1572, 1615, 1628, 1641, 1664, 1687, 1710, 1743, 1756], 227) := by decide +kernel
theorem dL_law_260 : decode cL_law 260 = .ok (.aload_n 1, 1) := by decide +kernel
theorem dL_law_261 : decode cL_law 261 = .ok (.invokevirtual 13, 3) := by decide +kernel
theorem dL_law_264 : decode cL_law 264 = .ok (.aload_n 2, 1) := by decide +kernel
theorem dL_law_265 : decode cL_law 265 = .ok (.invokevirtual 17, 3) := by decide +kernel
theorem dL_law_268 : decode cL_law 268 = .ok (.if_icmp .eq 1534, 3) := by decide +kernel
theorem dL_law_271 : decode cL_law 271 = .ok (.iconst 0, 1) := by decide +kernel
theorem dL_law_272 : decode cL_law 272 = .ok (.ireturn, 1) := by decide +kernel
theorem dL_law_273 : decode cL_law 273 = .ok (.aload_n 1, 1) := by decide +kernel
theorem dL_law_274 : decode cL_law 274 = .ok (.invokevirtual 18, 3) := by decide +kernel
theorem dL_law_277 : decode cL_law 277 = .ok (.aload_n 2, 1) := by decide +kernel
theorem dL_law_278 : decode cL_law 278 = .ok (.invokevirtual 22, 3) := by decide +kernel
theorem dL_law_281 : decode cL_law 281 = .ok (.lcmp, 1) := by decide +kernel
theorem dL_law_282 : decode cL_law 282 = .ok (.ifCond .eq 1520, 3) := by decide +kernel
theorem dL_law_285 : decode cL_law 285 = .ok (.iconst 0, 1) := by decide +kernel
theorem dL_law_286 : decode cL_law 286 = .ok (.ireturn, 1) := by decide +kernel
theorem dL_law_287 : decode cL_law 287 = .ok (.aload_n 1, 1) := by decide +kernel
theorem dL_law_288 : decode cL_law 288 = .ok (.invokevirtual 23, 3) := by decide +kernel
theorem dL_law_291 : decode cL_law 291 = .ok (.aload_n 2, 1) := by decide +kernel
theorem dL_law_292 : decode cL_law 292 = .ok (.invokevirtual 26, 3) := by decide +kernel
theorem dL_law_295 : decode cL_law 295 = .ok (.lcmp, 1) := by decide +kernel
theorem dL_law_296 : decode cL_law 296 = .ok (.ifCond .eq 1506, 3) := by decide +kernel
theorem dL_law_299 : decode cL_law 299 = .ok (.iconst 0, 1) := by decide +kernel
theorem dL_law_300 : decode cL_law 300 = .ok (.ireturn, 1) := by decide +kernel
theorem dL_law_301 : decode cL_law 301 = .ok (.aload_n 1, 1) := by decide +kernel
theorem dL_law_302 : decode cL_law 302 = .ok (.aload_n 0, 1) := by decide +kernel
theorem dL_law_303 : decode cL_law 303 = .ok (.iload_n 3, 1) := by decide +kernel
theorem dL_law_304 : decode cL_law 304 = .ok (.iconst 1, 1) := by decide +kernel
theorem dL_law_305 : decode cL_law 305 = .ok (.iadd, 1) := by decide +kernel
theorem dL_law_306 : decode cL_law 306 = .ok (.iaload, 1) := by decide +kernel
theorem dL_law_307 : decode cL_law 307 = .ok (.aload_n 0, 1) := by decide +kernel
theorem dL_law_308 : decode cL_law 308 = .ok (.iload_n 3, 1) := by decide +kernel
theorem dL_law_309 : decode cL_law 309 = .ok (.iconst 2, 1) := by decide +kernel
theorem dL_law_310 : decode cL_law 310 = .ok (.iadd, 1) := by decide +kernel
theorem dL_law_311 : decode cL_law 311 = .ok (.iaload, 1) := by decide +kernel
theorem dL_law_312 : decode cL_law 312 = .ok (.aload_n 0, 1) := by decide +kernel
theorem dL_law_313 : decode cL_law 313 = .ok (.iload_n 3, 1) := by decide +kernel
theorem dL_law_314 : decode cL_law 314 = .ok (.iconst 3, 1) := by decide +kernel
theorem dL_law_315 : decode cL_law 315 = .ok (.iadd, 1) := by decide +kernel
theorem dL_law_316 : decode cL_law 316 = .ok (.iaload, 1) := by decide +kernel
theorem dL_law_317 : decode cL_law 317 = .ok (.invokevirtual 27, 3) := by decide +kernel
theorem dL_law_320 : decode cL_law 320 = .ok (.aload_n 2, 1) := by decide +kernel
theorem dL_law_321 : decode cL_law 321 = .ok (.aload_n 0, 1) := by decide +kernel
theorem dL_law_322 : decode cL_law 322 = .ok (.iload_n 3, 1) := by decide +kernel
theorem dL_law_323 : decode cL_law 323 = .ok (.iconst 1, 1) := by decide +kernel
theorem dL_law_324 : decode cL_law 324 = .ok (.iadd, 1) := by decide +kernel
theorem dL_law_325 : decode cL_law 325 = .ok (.iaload, 1) := by decide +kernel
theorem dL_law_326 : decode cL_law 326 = .ok (.aload_n 0, 1) := by decide +kernel
theorem dL_law_327 : decode cL_law 327 = .ok (.iload_n 3, 1) := by decide +kernel
theorem dL_law_328 : decode cL_law 328 = .ok (.iconst 2, 1) := by decide +kernel
theorem dL_law_329 : decode cL_law 329 = .ok (.iadd, 1) := by decide +kernel
theorem dL_law_330 : decode cL_law 330 = .ok (.iaload, 1) := by decide +kernel
theorem dL_law_331 : decode cL_law 331 = .ok (.aload_n 0, 1) := by decide +kernel
theorem dL_law_332 : decode cL_law 332 = .ok (.iload_n 3, 1) := by decide +kernel
theorem dL_law_333 : decode cL_law 333 = .ok (.iconst 3, 1) := by decide +kernel
theorem dL_law_334 : decode cL_law 334 = .ok (.iadd, 1) := by decide +kernel
theorem dL_law_335 : decode cL_law 335 = .ok (.iaload, 1) := by decide +kernel
theorem dL_law_336 : decode cL_law 336 = .ok (.invokevirtual 31, 3) := by decide +kernel
theorem dL_law_339 : decode cL_law 339 = .ok (.if_icmp .eq 1463, 3) := by decide +kernel
theorem dL_law_342 : decode cL_law 342 = .ok (.iconst 0, 1) := by decide +kernel
theorem dL_law_343 : decode cL_law 343 = .ok (.ireturn, 1) := by decide +kernel
theorem dL_law_344 : decode cL_law 344 = .ok (.aload_n 1, 1) := by decide +kernel
theorem dL_law_345 : decode cL_law 345 = .ok (.aload_n 0, 1) := by decide +kernel
theorem dL_law_346 : decode cL_law 346 = .ok (.iload_n 3, 1) := by decide +kernel
theorem dL_law_347 : decode cL_law 347 = .ok (.iconst 1, 1) := by decide +kernel
theorem dL_law_348 : decode cL_law 348 = .ok (.iadd, 1) := by decide +kernel
theorem dL_law_349 : decode cL_law 349 = .ok (.iaload, 1) := by decide +kernel
theorem dL_law_350 : decode cL_law 350 = .ok (.aload_n 0, 1) := by decide +kernel
theorem dL_law_351 : decode cL_law 351 = .ok (.iload_n 3, 1) := by decide +kernel
theorem dL_law_352 : decode cL_law 352 = .ok (.iconst 2, 1) := by decide +kernel
theorem dL_law_353 : decode cL_law 353 = .ok (.iadd, 1) := by decide +kernel
theorem dL_law_354 : decode cL_law 354 = .ok (.iaload, 1) := by decide +kernel
theorem dL_law_355 : decode cL_law 355 = .ok (.aload_n 0, 1) := by decide +kernel
theorem dL_law_356 : decode cL_law 356 = .ok (.iload_n 3, 1) := by decide +kernel
theorem dL_law_357 : decode cL_law 357 = .ok (.iconst 3, 1) := by decide +kernel
theorem dL_law_358 : decode cL_law 358 = .ok (.iadd, 1) := by decide +kernel
theorem dL_law_359 : decode cL_law 359 = .ok (.iaload, 1) := by decide +kernel
theorem dL_law_360 : decode cL_law 360 = .ok (.i2l, 1) := by decide +kernel
theorem dL_law_361 : decode cL_law 361 = .ok (.bipush 32, 2) := by decide +kernel
theorem dL_law_363 : decode cL_law 363 = .ok (.lshl, 1) := by decide +kernel
theorem dL_law_364 : decode cL_law 364 = .ok (.aload_n 0, 1) := by decide +kernel
theorem dL_law_365 : decode cL_law 365 = .ok (.iload_n 3, 1) := by decide +kernel
theorem dL_law_366 : decode cL_law 366 = .ok (.iconst 4, 1) := by decide +kernel
theorem dL_law_367 : decode cL_law 367 = .ok (.iadd, 1) := by decide +kernel
theorem dL_law_368 : decode cL_law 368 = .ok (.iaload, 1) := by decide +kernel
theorem dL_law_369 : decode cL_law 369 = .ok (.i2l, 1) := by decide +kernel
theorem dL_law_370 : decode cL_law 370 = .ok (.ldc2_w 32, 3) := by decide +kernel
theorem dL_law_373 : decode cL_law 373 = .ok (.land, 1) := by decide +kernel
theorem dL_law_374 : decode cL_law 374 = .ok (.lor, 1) := by decide +kernel
theorem dL_law_375 : decode cL_law 375 = .ok (.invokevirtual 34, 3) := by decide +kernel
theorem dL_law_378 : decode cL_law 378 = .ok (.aload_n 2, 1) := by decide +kernel
theorem dL_law_379 : decode cL_law 379 = .ok (.aload_n 0, 1) := by decide +kernel
theorem dL_law_380 : decode cL_law 380 = .ok (.iload_n 3, 1) := by decide +kernel
theorem dL_law_381 : decode cL_law 381 = .ok (.iconst 1, 1) := by decide +kernel
theorem dL_law_382 : decode cL_law 382 = .ok (.iadd, 1) := by decide +kernel
theorem dL_law_383 : decode cL_law 383 = .ok (.iaload, 1) := by decide +kernel
theorem dL_law_384 : decode cL_law 384 = .ok (.aload_n 0, 1) := by decide +kernel
theorem dL_law_385 : decode cL_law 385 = .ok (.iload_n 3, 1) := by decide +kernel
theorem dL_law_386 : decode cL_law 386 = .ok (.iconst 2, 1) := by decide +kernel
theorem dL_law_387 : decode cL_law 387 = .ok (.iadd, 1) := by decide +kernel
theorem dL_law_388 : decode cL_law 388 = .ok (.iaload, 1) := by decide +kernel
theorem dL_law_389 : decode cL_law 389 = .ok (.aload_n 0, 1) := by decide +kernel
theorem dL_law_390 : decode cL_law 390 = .ok (.iload_n 3, 1) := by decide +kernel
theorem dL_law_391 : decode cL_law 391 = .ok (.iconst 3, 1) := by decide +kernel
theorem dL_law_392 : decode cL_law 392 = .ok (.iadd, 1) := by decide +kernel
theorem dL_law_393 : decode cL_law 393 = .ok (.iaload, 1) := by decide +kernel
theorem dL_law_394 : decode cL_law 394 = .ok (.i2l, 1) := by decide +kernel
theorem dL_law_395 : decode cL_law 395 = .ok (.bipush 32, 2) := by decide +kernel
theorem dL_law_397 : decode cL_law 397 = .ok (.lshl, 1) := by decide +kernel
theorem dL_law_398 : decode cL_law 398 = .ok (.aload_n 0, 1) := by decide +kernel
theorem dL_law_399 : decode cL_law 399 = .ok (.iload_n 3, 1) := by decide +kernel
theorem dL_law_400 : decode cL_law 400 = .ok (.iconst 4, 1) := by decide +kernel
theorem dL_law_401 : decode cL_law 401 = .ok (.iadd, 1) := by decide +kernel
theorem dL_law_402 : decode cL_law 402 = .ok (.iaload, 1) := by decide +kernel
theorem dL_law_403 : decode cL_law 403 = .ok (.i2l, 1) := by decide +kernel
theorem dL_law_404 : decode cL_law 404 = .ok (.ldc2_w 32, 3) := by decide +kernel
theorem dL_law_407 : decode cL_law 407 = .ok (.land, 1) := by decide +kernel
theorem dL_law_408 : decode cL_law 408 = .ok (.lor, 1) := by decide +kernel
theorem dL_law_409 : decode cL_law 409 = .ok (.invokevirtual 38, 3) := by decide +kernel
theorem dL_law_412 : decode cL_law 412 = .ok (.if_icmp .eq 1390, 3) := by decide +kernel
theorem dL_law_415 : decode cL_law 415 = .ok (.iconst 0, 1) := by decide +kernel
theorem dL_law_416 : decode cL_law 416 = .ok (.ireturn, 1) := by decide +kernel
theorem dL_law_417 : decode cL_law 417 = .ok (.aload_n 1, 1) := by decide +kernel
theorem dL_law_418 : decode cL_law 418 = .ok (.aload_n 0, 1) := by decide +kernel
theorem dL_law_419 : decode cL_law 419 = .ok (.iload_n 3, 1) := by decide +kernel
theorem dL_law_420 : decode cL_law 420 = .ok (.iconst 1, 1) := by decide +kernel
theorem dL_law_421 : decode cL_law 421 = .ok (.iadd, 1) := by decide +kernel
theorem dL_law_422 : decode cL_law 422 = .ok (.iaload, 1) := by decide +kernel
theorem dL_law_423 : decode cL_law 423 = .ok (.aload_n 0, 1) := by decide +kernel
theorem dL_law_424 : decode cL_law 424 = .ok (.iload_n 3, 1) := by decide +kernel
theorem dL_law_425 : decode cL_law 425 = .ok (.iconst 2, 1) := by decide +kernel
theorem dL_law_426 : decode cL_law 426 = .ok (.iadd, 1) := by decide +kernel
theorem dL_law_427 : decode cL_law 427 = .ok (.iaload, 1) := by decide +kernel
theorem dL_law_428 : decode cL_law 428 = .ok (.invokevirtual 39, 3) := by decide +kernel
theorem dL_law_431 : decode cL_law 431 = .ok (.aload_n 2, 1) := by decide +kernel
theorem dL_law_432 : decode cL_law 432 = .ok (.aload_n 0, 1) := by decide +kernel
theorem dL_law_433 : decode cL_law 433 = .ok (.iload_n 3, 1) := by decide +kernel
theorem dL_law_434 : decode cL_law 434 = .ok (.iconst 1, 1) := by decide +kernel
theorem dL_law_435 : decode cL_law 435 = .ok (.iadd, 1) := by decide +kernel
theorem dL_law_436 : decode cL_law 436 = .ok (.iaload, 1) := by decide +kernel
theorem dL_law_437 : decode cL_law 437 = .ok (.aload_n 0, 1) := by decide +kernel
theorem dL_law_438 : decode cL_law 438 = .ok (.iload_n 3, 1) := by decide +kernel
theorem dL_law_439 : decode cL_law 439 = .ok (.iconst 2, 1) := by decide +kernel
theorem dL_law_440 : decode cL_law 440 = .ok (.iadd, 1) := by decide +kernel
theorem dL_law_441 : decode cL_law 441 = .ok (.iaload, 1) := by decide +kernel
theorem dL_law_442 : decode cL_law 442 = .ok (.invokevirtual 43, 3) := by decide +kernel
theorem dL_law_445 : decode cL_law 445 = .ok (.lcmp, 1) := by decide +kernel
theorem dL_law_446 : decode cL_law 446 = .ok (.ifCond .eq 1356, 3) := by decide +kernel
theorem dL_law_449 : decode cL_law 449 = .ok (.iconst 0, 1) := by decide +kernel
theorem dL_law_450 : decode cL_law 450 = .ok (.ireturn, 1) := by decide +kernel
theorem dL_law_451 : decode cL_law 451 = .ok (.aload_n 1, 1) := by decide +kernel
theorem dL_law_452 : decode cL_law 452 = .ok (.aload_n 0, 1) := by decide +kernel
theorem dL_law_453 : decode cL_law 453 = .ok (.iload_n 3, 1) := by decide +kernel
theorem dL_law_454 : decode cL_law 454 = .ok (.iconst 1, 1) := by decide +kernel
theorem dL_law_455 : decode cL_law 455 = .ok (.iadd, 1) := by decide +kernel
theorem dL_law_456 : decode cL_law 456 = .ok (.iaload, 1) := by decide +kernel
theorem dL_law_457 : decode cL_law 457 = .ok (.aload_n 0, 1) := by decide +kernel
theorem dL_law_458 : decode cL_law 458 = .ok (.iload_n 3, 1) := by decide +kernel
theorem dL_law_459 : decode cL_law 459 = .ok (.iconst 2, 1) := by decide +kernel
theorem dL_law_460 : decode cL_law 460 = .ok (.iadd, 1) := by decide +kernel
theorem dL_law_461 : decode cL_law 461 = .ok (.iaload, 1) := by decide +kernel
theorem dL_law_462 : decode cL_law 462 = .ok (.aload_n 0, 1) := by decide +kernel
theorem dL_law_463 : decode cL_law 463 = .ok (.iload_n 3, 1) := by decide +kernel
theorem dL_law_464 : decode cL_law 464 = .ok (.iconst 3, 1) := by decide +kernel
theorem dL_law_465 : decode cL_law 465 = .ok (.iadd, 1) := by decide +kernel
theorem dL_law_466 : decode cL_law 466 = .ok (.iaload, 1) := by decide +kernel
theorem dL_law_467 : decode cL_law 467 = .ok (.aload_n 0, 1) := by decide +kernel
theorem dL_law_468 : decode cL_law 468 = .ok (.iload_n 3, 1) := by decide +kernel
theorem dL_law_469 : decode cL_law 469 = .ok (.iconst 4, 1) := by decide +kernel
theorem dL_law_470 : decode cL_law 470 = .ok (.iadd, 1) := by decide +kernel
theorem dL_law_471 : decode cL_law 471 = .ok (.iaload, 1) := by decide +kernel
theorem dL_law_472 : decode cL_law 472 = .ok (.aload_n 0, 1) := by decide +kernel
theorem dL_law_473 : decode cL_law 473 = .ok (.iload_n 3, 1) := by decide +kernel
theorem dL_law_474 : decode cL_law 474 = .ok (.iconst 5, 1) := by decide +kernel
theorem dL_law_475 : decode cL_law 475 = .ok (.iadd, 1) := by decide +kernel
theorem dL_law_476 : decode cL_law 476 = .ok (.iaload, 1) := by decide +kernel
theorem dL_law_477 : decode cL_law 477 = .ok (.invokevirtual 44, 3) := by decide +kernel
theorem dL_law_480 : decode cL_law 480 = .ok (.aload_n 2, 1) := by decide +kernel
theorem dL_law_481 : decode cL_law 481 = .ok (.aload_n 0, 1) := by decide +kernel
theorem dL_law_482 : decode cL_law 482 = .ok (.iload_n 3, 1) := by decide +kernel
theorem dL_law_483 : decode cL_law 483 = .ok (.iconst 1, 1) := by decide +kernel
theorem dL_law_484 : decode cL_law 484 = .ok (.iadd, 1) := by decide +kernel
theorem dL_law_485 : decode cL_law 485 = .ok (.iaload, 1) := by decide +kernel
theorem dL_law_486 : decode cL_law 486 = .ok (.aload_n 0, 1) := by decide +kernel
theorem dL_law_487 : decode cL_law 487 = .ok (.iload_n 3, 1) := by decide +kernel
theorem dL_law_488 : decode cL_law 488 = .ok (.iconst 2, 1) := by decide +kernel
theorem dL_law_489 : decode cL_law 489 = .ok (.iadd, 1) := by decide +kernel
theorem dL_law_490 : decode cL_law 490 = .ok (.iaload, 1) := by decide +kernel
theorem dL_law_491 : decode cL_law 491 = .ok (.aload_n 0, 1) := by decide +kernel
theorem dL_law_492 : decode cL_law 492 = .ok (.iload_n 3, 1) := by decide +kernel
theorem dL_law_493 : decode cL_law 493 = .ok (.iconst 3, 1) := by decide +kernel
theorem dL_law_494 : decode cL_law 494 = .ok (.iadd, 1) := by decide +kernel
theorem dL_law_495 : decode cL_law 495 = .ok (.iaload, 1) := by decide +kernel
theorem dL_law_496 : decode cL_law 496 = .ok (.aload_n 0, 1) := by decide +kernel
theorem dL_law_497 : decode cL_law 497 = .ok (.iload_n 3, 1) := by decide +kernel
theorem dL_law_498 : decode cL_law 498 = .ok (.iconst 4, 1) := by decide +kernel
theorem dL_law_499 : decode cL_law 499 = .ok (.iadd, 1) := by decide +kernel
theorem dL_law_500 : decode cL_law 500 = .ok (.iaload, 1) := by decide +kernel
theorem dL_law_501 : decode cL_law 501 = .ok (.aload_n 0, 1) := by decide +kernel
theorem dL_law_502 : decode cL_law 502 = .ok (.iload_n 3, 1) := by decide +kernel
theorem dL_law_503 : decode cL_law 503 = .ok (.iconst 5, 1) := by decide +kernel
theorem dL_law_504 : decode cL_law 504 = .ok (.iadd, 1) := by decide +kernel
theorem dL_law_505 : decode cL_law 505 = .ok (.iaload, 1) := by decide +kernel
theorem dL_law_506 : decode cL_law 506 = .ok (.invokevirtual 48, 3) := by decide +kernel
theorem dL_law_509 : decode cL_law 509 = .ok (.if_icmp .eq 1293, 3) := by decide +kernel
theorem dL_law_512 : decode cL_law 512 = .ok (.iconst 0, 1) := by decide +kernel
theorem dL_law_513 : decode cL_law 513 = .ok (.ireturn, 1) := by decide +kernel
theorem dL_law_514 : decode cL_law 514 = .ok (.aload_n 1, 1) := by decide +kernel
theorem dL_law_515 : decode cL_law 515 = .ok (.aload_n 0, 1) := by decide +kernel
theorem dL_law_516 : decode cL_law 516 = .ok (.iload_n 3, 1) := by decide +kernel
theorem dL_law_517 : decode cL_law 517 = .ok (.iconst 1, 1) := by decide +kernel
theorem dL_law_518 : decode cL_law 518 = .ok (.iadd, 1) := by decide +kernel
theorem dL_law_519 : decode cL_law 519 = .ok (.iaload, 1) := by decide +kernel
theorem dL_law_520 : decode cL_law 520 = .ok (.aload_n 0, 1) := by decide +kernel
theorem dL_law_521 : decode cL_law 521 = .ok (.iload_n 3, 1) := by decide +kernel
theorem dL_law_522 : decode cL_law 522 = .ok (.iconst 2, 1) := by decide +kernel
theorem dL_law_523 : decode cL_law 523 = .ok (.iadd, 1) := by decide +kernel
theorem dL_law_524 : decode cL_law 524 = .ok (.iaload, 1) := by decide +kernel
theorem dL_law_525 : decode cL_law 525 = .ok (.aload_n 0, 1) := by decide +kernel
theorem dL_law_526 : decode cL_law 526 = .ok (.iload_n 3, 1) := by decide +kernel
theorem dL_law_527 : decode cL_law 527 = .ok (.iconst 3, 1) := by decide +kernel
theorem dL_law_528 : decode cL_law 528 = .ok (.iadd, 1) := by decide +kernel
theorem dL_law_529 : decode cL_law 529 = .ok (.iaload, 1) := by decide +kernel
theorem dL_law_530 : decode cL_law 530 = .ok (.aload_n 0, 1) := by decide +kernel
theorem dL_law_531 : decode cL_law 531 = .ok (.iload_n 3, 1) := by decide +kernel
theorem dL_law_532 : decode cL_law 532 = .ok (.iconst 4, 1) := by decide +kernel
theorem dL_law_533 : decode cL_law 533 = .ok (.iadd, 1) := by decide +kernel
theorem dL_law_534 : decode cL_law 534 = .ok (.iaload, 1) := by decide +kernel
theorem dL_law_535 : decode cL_law 535 = .ok (.aload_n 0, 1) := by decide +kernel
theorem dL_law_536 : decode cL_law 536 = .ok (.iload_n 3, 1) := by decide +kernel
theorem dL_law_537 : decode cL_law 537 = .ok (.iconst 5, 1) := by decide +kernel
theorem dL_law_538 : decode cL_law 538 = .ok (.iadd, 1) := by decide +kernel
theorem dL_law_539 : decode cL_law 539 = .ok (.iaload, 1) := by decide +kernel
theorem dL_law_540 : decode cL_law 540 = .ok (.invokevirtual 49, 3) := by decide +kernel
theorem dL_law_543 : decode cL_law 543 = .ok (.aload_n 2, 1) := by decide +kernel
theorem dL_law_544 : decode cL_law 544 = .ok (.aload_n 0, 1) := by decide +kernel
theorem dL_law_545 : decode cL_law 545 = .ok (.iload_n 3, 1) := by decide +kernel
theorem dL_law_546 : decode cL_law 546 = .ok (.iconst 1, 1) := by decide +kernel
theorem dL_law_547 : decode cL_law 547 = .ok (.iadd, 1) := by decide +kernel
theorem dL_law_548 : decode cL_law 548 = .ok (.iaload, 1) := by decide +kernel
theorem dL_law_549 : decode cL_law 549 = .ok (.aload_n 0, 1) := by decide +kernel
theorem dL_law_550 : decode cL_law 550 = .ok (.iload_n 3, 1) := by decide +kernel
theorem dL_law_551 : decode cL_law 551 = .ok (.iconst 2, 1) := by decide +kernel
theorem dL_law_552 : decode cL_law 552 = .ok (.iadd, 1) := by decide +kernel
theorem dL_law_553 : decode cL_law 553 = .ok (.iaload, 1) := by decide +kernel
theorem dL_law_554 : decode cL_law 554 = .ok (.aload_n 0, 1) := by decide +kernel
theorem dL_law_555 : decode cL_law 555 = .ok (.iload_n 3, 1) := by decide +kernel
theorem dL_law_556 : decode cL_law 556 = .ok (.iconst 3, 1) := by decide +kernel
theorem dL_law_557 : decode cL_law 557 = .ok (.iadd, 1) := by decide +kernel
theorem dL_law_558 : decode cL_law 558 = .ok (.iaload, 1) := by decide +kernel
theorem dL_law_559 : decode cL_law 559 = .ok (.aload_n 0, 1) := by decide +kernel
theorem dL_law_560 : decode cL_law 560 = .ok (.iload_n 3, 1) := by decide +kernel
theorem dL_law_561 : decode cL_law 561 = .ok (.iconst 4, 1) := by decide +kernel
theorem dL_law_562 : decode cL_law 562 = .ok (.iadd, 1) := by decide +kernel
theorem dL_law_563 : decode cL_law 563 = .ok (.iaload, 1) := by decide +kernel
theorem dL_law_564 : decode cL_law 564 = .ok (.aload_n 0, 1) := by decide +kernel
theorem dL_law_565 : decode cL_law 565 = .ok (.iload_n 3, 1) := by decide +kernel
theorem dL_law_566 : decode cL_law 566 = .ok (.iconst 5, 1) := by decide +kernel
theorem dL_law_567 : decode cL_law 567 = .ok (.iadd, 1) := by decide +kernel
theorem dL_law_568 : decode cL_law 568 = .ok (.iaload, 1) := by decide +kernel
theorem dL_law_569 : decode cL_law 569 = .ok (.invokevirtual 53, 3) := by decide +kernel
theorem dL_law_572 : decode cL_law 572 = .ok (.if_icmp .eq 1230, 3) := by decide +kernel
theorem dL_law_575 : decode cL_law 575 = .ok (.iconst 0, 1) := by decide +kernel
theorem dL_law_576 : decode cL_law 576 = .ok (.ireturn, 1) := by decide +kernel
theorem dL_law_577 : decode cL_law 577 = .ok (.aload_n 1, 1) := by decide +kernel
theorem dL_law_578 : decode cL_law 578 = .ok (.aload_n 0, 1) := by decide +kernel
theorem dL_law_579 : decode cL_law 579 = .ok (.iload_n 3, 1) := by decide +kernel
theorem dL_law_580 : decode cL_law 580 = .ok (.iconst 1, 1) := by decide +kernel
theorem dL_law_581 : decode cL_law 581 = .ok (.iadd, 1) := by decide +kernel
theorem dL_law_582 : decode cL_law 582 = .ok (.iaload, 1) := by decide +kernel
theorem dL_law_583 : decode cL_law 583 = .ok (.invokevirtual 54, 3) := by decide +kernel
theorem dL_law_586 : decode cL_law 586 = .ok (.aload_n 2, 1) := by decide +kernel
theorem dL_law_587 : decode cL_law 587 = .ok (.aload_n 0, 1) := by decide +kernel
theorem dL_law_588 : decode cL_law 588 = .ok (.iload_n 3, 1) := by decide +kernel
theorem dL_law_589 : decode cL_law 589 = .ok (.iconst 1, 1) := by decide +kernel
theorem dL_law_590 : decode cL_law 590 = .ok (.iadd, 1) := by decide +kernel
theorem dL_law_591 : decode cL_law 591 = .ok (.iaload, 1) := by decide +kernel
theorem dL_law_592 : decode cL_law 592 = .ok (.invokevirtual 58, 3) := by decide +kernel
theorem dL_law_595 : decode cL_law 595 = .ok (.if_icmp .eq 1207, 3) := by decide +kernel
theorem dL_law_598 : decode cL_law 598 = .ok (.iconst 0, 1) := by decide +kernel
theorem dL_law_599 : decode cL_law 599 = .ok (.ireturn, 1) := by decide +kernel
theorem dL_law_600 : decode cL_law 600 = .ok (.aload_n 1, 1) := by decide +kernel
theorem dL_law_601 : decode cL_law 601 = .ok (.aload_n 0, 1) := by decide +kernel
theorem dL_law_602 : decode cL_law 602 = .ok (.iload_n 3, 1) := by decide +kernel
theorem dL_law_603 : decode cL_law 603 = .ok (.iconst 1, 1) := by decide +kernel
theorem dL_law_604 : decode cL_law 604 = .ok (.iadd, 1) := by decide +kernel
theorem dL_law_605 : decode cL_law 605 = .ok (.iaload, 1) := by decide +kernel
theorem dL_law_606 : decode cL_law 606 = .ok (.invokevirtual 59, 3) := by decide +kernel
theorem dL_law_609 : decode cL_law 609 = .ok (.aload_n 2, 1) := by decide +kernel
theorem dL_law_610 : decode cL_law 610 = .ok (.aload_n 0, 1) := by decide +kernel
theorem dL_law_611 : decode cL_law 611 = .ok (.iload_n 3, 1) := by decide +kernel
theorem dL_law_612 : decode cL_law 612 = .ok (.iconst 1, 1) := by decide +kernel
theorem dL_law_613 : decode cL_law 613 = .ok (.iadd, 1) := by decide +kernel
theorem dL_law_614 : decode cL_law 614 = .ok (.iaload, 1) := by decide +kernel
theorem dL_law_615 : decode cL_law 615 = .ok (.invokevirtual 62, 3) := by decide +kernel
theorem dL_law_618 : decode cL_law 618 = .ok (.if_icmp .eq 1184, 3) := by decide +kernel
theorem dL_law_621 : decode cL_law 621 = .ok (.iconst 0, 1) := by decide +kernel
theorem dL_law_622 : decode cL_law 622 = .ok (.ireturn, 1) := by decide +kernel
theorem dL_law_623 : decode cL_law 623 = .ok (.aload_n 1, 1) := by decide +kernel
theorem dL_law_624 : decode cL_law 624 = .ok (.aload_n 0, 1) := by decide +kernel
theorem dL_law_625 : decode cL_law 625 = .ok (.iload_n 3, 1) := by decide +kernel
theorem dL_law_626 : decode cL_law 626 = .ok (.iconst 1, 1) := by decide +kernel
theorem dL_law_627 : decode cL_law 627 = .ok (.iadd, 1) := by decide +kernel
theorem dL_law_628 : decode cL_law 628 = .ok (.iaload, 1) := by decide +kernel
theorem dL_law_629 : decode cL_law 629 = .ok (.invokevirtual 63, 3) := by decide +kernel
theorem dL_law_632 : decode cL_law 632 = .ok (.aload_n 2, 1) := by decide +kernel
theorem dL_law_633 : decode cL_law 633 = .ok (.aload_n 0, 1) := by decide +kernel
theorem dL_law_634 : decode cL_law 634 = .ok (.iload_n 3, 1) := by decide +kernel
theorem dL_law_635 : decode cL_law 635 = .ok (.iconst 1, 1) := by decide +kernel
theorem dL_law_636 : decode cL_law 636 = .ok (.iadd, 1) := by decide +kernel
theorem dL_law_637 : decode cL_law 637 = .ok (.iaload, 1) := by decide +kernel
theorem dL_law_638 : decode cL_law 638 = .ok (.invokevirtual 66, 3) := by decide +kernel
theorem dL_law_641 : decode cL_law 641 = .ok (.if_icmp .eq 1161, 3) := by decide +kernel
theorem dL_law_644 : decode cL_law 644 = .ok (.iconst 0, 1) := by decide +kernel
theorem dL_law_645 : decode cL_law 645 = .ok (.ireturn, 1) := by decide +kernel
theorem dL_law_646 : decode cL_law 646 = .ok (.aload_n 1, 1) := by decide +kernel
theorem dL_law_647 : decode cL_law 647 = .ok (.aload_n 0, 1) := by decide +kernel
theorem dL_law_648 : decode cL_law 648 = .ok (.iload_n 3, 1) := by decide +kernel
theorem dL_law_649 : decode cL_law 649 = .ok (.iconst 1, 1) := by decide +kernel
theorem dL_law_650 : decode cL_law 650 = .ok (.iadd, 1) := by decide +kernel
theorem dL_law_651 : decode cL_law 651 = .ok (.iaload, 1) := by decide +kernel
theorem dL_law_652 : decode cL_law 652 = .ok (.invokevirtual 67, 3) := by decide +kernel
theorem dL_law_655 : decode cL_law 655 = .ok (.aload_n 2, 1) := by decide +kernel
theorem dL_law_656 : decode cL_law 656 = .ok (.aload_n 0, 1) := by decide +kernel
theorem dL_law_657 : decode cL_law 657 = .ok (.iload_n 3, 1) := by decide +kernel
theorem dL_law_658 : decode cL_law 658 = .ok (.iconst 1, 1) := by decide +kernel
theorem dL_law_659 : decode cL_law 659 = .ok (.iadd, 1) := by decide +kernel
theorem dL_law_660 : decode cL_law 660 = .ok (.iaload, 1) := by decide +kernel
theorem dL_law_661 : decode cL_law 661 = .ok (.invokevirtual 70, 3) := by decide +kernel
theorem dL_law_664 : decode cL_law 664 = .ok (.if_icmp .eq 1138, 3) := by decide +kernel
theorem dL_law_667 : decode cL_law 667 = .ok (.iconst 0, 1) := by decide +kernel
theorem dL_law_668 : decode cL_law 668 = .ok (.ireturn, 1) := by decide +kernel
theorem dL_law_669 : decode cL_law 669 = .ok (.aload_n 1, 1) := by decide +kernel
theorem dL_law_670 : decode cL_law 670 = .ok (.aload_n 0, 1) := by decide +kernel
theorem dL_law_671 : decode cL_law 671 = .ok (.iload_n 3, 1) := by decide +kernel
theorem dL_law_672 : decode cL_law 672 = .ok (.iconst 1, 1) := by decide +kernel
theorem dL_law_673 : decode cL_law 673 = .ok (.iadd, 1) := by decide +kernel
theorem dL_law_674 : decode cL_law 674 = .ok (.iaload, 1) := by decide +kernel
theorem dL_law_675 : decode cL_law 675 = .ok (.aload_n 0, 1) := by decide +kernel
theorem dL_law_676 : decode cL_law 676 = .ok (.iload_n 3, 1) := by decide +kernel
theorem dL_law_677 : decode cL_law 677 = .ok (.iconst 2, 1) := by decide +kernel
theorem dL_law_678 : decode cL_law 678 = .ok (.iadd, 1) := by decide +kernel
theorem dL_law_679 : decode cL_law 679 = .ok (.iaload, 1) := by decide +kernel
theorem dL_law_680 : decode cL_law 680 = .ok (.invokevirtual 71, 3) := by decide +kernel
theorem dL_law_683 : decode cL_law 683 = .ok (.aload_n 2, 1) := by decide +kernel
theorem dL_law_684 : decode cL_law 684 = .ok (.aload_n 0, 1) := by decide +kernel
theorem dL_law_685 : decode cL_law 685 = .ok (.iload_n 3, 1) := by decide +kernel
theorem dL_law_686 : decode cL_law 686 = .ok (.iconst 1, 1) := by decide +kernel
theorem dL_law_687 : decode cL_law 687 = .ok (.iadd, 1) := by decide +kernel
theorem dL_law_688 : decode cL_law 688 = .ok (.iaload, 1) := by decide +kernel
theorem dL_law_689 : decode cL_law 689 = .ok (.aload_n 0, 1) := by decide +kernel
theorem dL_law_690 : decode cL_law 690 = .ok (.iload_n 3, 1) := by decide +kernel
theorem dL_law_691 : decode cL_law 691 = .ok (.iconst 2, 1) := by decide +kernel
theorem dL_law_692 : decode cL_law 692 = .ok (.iadd, 1) := by decide +kernel
theorem dL_law_693 : decode cL_law 693 = .ok (.iaload, 1) := by decide +kernel
theorem dL_law_694 : decode cL_law 694 = .ok (.invokevirtual 75, 3) := by decide +kernel
theorem dL_law_697 : decode cL_law 697 = .ok (.if_icmp .eq 1105, 3) := by decide +kernel
theorem dL_law_700 : decode cL_law 700 = .ok (.iconst 0, 1) := by decide +kernel
theorem dL_law_701 : decode cL_law 701 = .ok (.ireturn, 1) := by decide +kernel
theorem dL_law_702 : decode cL_law 702 = .ok (.aload_n 1, 1) := by decide +kernel
theorem dL_law_703 : decode cL_law 703 = .ok (.aload_n 0, 1) := by decide +kernel
theorem dL_law_704 : decode cL_law 704 = .ok (.iload_n 3, 1) := by decide +kernel
theorem dL_law_705 : decode cL_law 705 = .ok (.iconst 1, 1) := by decide +kernel
theorem dL_law_706 : decode cL_law 706 = .ok (.iadd, 1) := by decide +kernel
theorem dL_law_707 : decode cL_law 707 = .ok (.iaload, 1) := by decide +kernel
theorem dL_law_708 : decode cL_law 708 = .ok (.invokevirtual 76, 3) := by decide +kernel
theorem dL_law_711 : decode cL_law 711 = .ok (.aload_n 2, 1) := by decide +kernel
theorem dL_law_712 : decode cL_law 712 = .ok (.aload_n 0, 1) := by decide +kernel
theorem dL_law_713 : decode cL_law 713 = .ok (.iload_n 3, 1) := by decide +kernel
theorem dL_law_714 : decode cL_law 714 = .ok (.iconst 1, 1) := by decide +kernel
theorem dL_law_715 : decode cL_law 715 = .ok (.iadd, 1) := by decide +kernel
theorem dL_law_716 : decode cL_law 716 = .ok (.iaload, 1) := by decide +kernel
theorem dL_law_717 : decode cL_law 717 = .ok (.invokevirtual 79, 3) := by decide +kernel
theorem dL_law_720 : decode cL_law 720 = .ok (.if_icmp .eq 1082, 3) := by decide +kernel
theorem dL_law_723 : decode cL_law 723 = .ok (.iconst 0, 1) := by decide +kernel
theorem dL_law_724 : decode cL_law 724 = .ok (.ireturn, 1) := by decide +kernel
theorem dL_law_725 : decode cL_law 725 = .ok (.aload_n 1, 1) := by decide +kernel
theorem dL_law_726 : decode cL_law 726 = .ok (.aload_n 0, 1) := by decide +kernel
theorem dL_law_727 : decode cL_law 727 = .ok (.iload_n 3, 1) := by decide +kernel
theorem dL_law_728 : decode cL_law 728 = .ok (.iconst 1, 1) := by decide +kernel
theorem dL_law_729 : decode cL_law 729 = .ok (.iadd, 1) := by decide +kernel
theorem dL_law_730 : decode cL_law 730 = .ok (.iaload, 1) := by decide +kernel
theorem dL_law_731 : decode cL_law 731 = .ok (.aload_n 0, 1) := by decide +kernel
theorem dL_law_732 : decode cL_law 732 = .ok (.iload_n 3, 1) := by decide +kernel
theorem dL_law_733 : decode cL_law 733 = .ok (.iconst 2, 1) := by decide +kernel
theorem dL_law_734 : decode cL_law 734 = .ok (.iadd, 1) := by decide +kernel
theorem dL_law_735 : decode cL_law 735 = .ok (.iaload, 1) := by decide +kernel
theorem dL_law_736 : decode cL_law 736 = .ok (.invokevirtual 80, 3) := by decide +kernel
theorem dL_law_739 : decode cL_law 739 = .ok (.aload_n 2, 1) := by decide +kernel
theorem dL_law_740 : decode cL_law 740 = .ok (.aload_n 0, 1) := by decide +kernel
theorem dL_law_741 : decode cL_law 741 = .ok (.iload_n 3, 1) := by decide +kernel
theorem dL_law_742 : decode cL_law 742 = .ok (.iconst 1, 1) := by decide +kernel
theorem dL_law_743 : decode cL_law 743 = .ok (.iadd, 1) := by decide +kernel

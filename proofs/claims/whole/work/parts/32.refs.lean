/-! Level 3: the references. -/
section RF
variable {L wl dr tx a : Nat} {w : Wd} {β : Type} {Q : β → Prop}
theorem wp_R0_0 {f : Nat → Option β} (h : Ok L wl dr tx w) (hb : isBk a) (kk : Wp (f (a + 1)) Q) : Wp ((fgR w a 0 0).bind f) Q := wp_gR h (sh_Bk L hb) (rf_Bk_0 wl dr tx hb) (by omega) kk
theorem wp_R1_0 {f : Nat → Option β} (h : Ok L wl dr tx w) (kk : Wp (f 177) Q) : Wp ((fgR w 176 1 0).bind f) Q := wp_gR (b := 177) h rfl rfl (by decide) kk
theorem wp_R1_1 {f : Nat → Option β} (h : Ok L wl dr tx w) (kk : Wp (f 184) Q) : Wp ((fgR w 176 1 1).bind f) Q := wp_gR (b := 184) h rfl rfl (by decide) kk
theorem wp_R1_2 {f : Nat → Option β} (h : Ok L wl dr tx w) (kk : Wp (f 185) Q) : Wp ((fgR w 176 1 2).bind f) Q := wp_gR (b := 185) h rfl rfl (by decide) kk
theorem wp_R11_0 {f : Nat → Option β} (h : Ok L wl dr tx w) (kk : Wp (f 7) Q) : Wp ((fgR w 6 11 0).bind f) Q := wp_gR (b := 7) h rfl rfl (by decide) kk
theorem wp_R11_2 {f : Nat → Option β} (h : Ok L wl dr tx w) (kk : Wp (f 8) Q) : Wp ((fgR w 6 11 2).bind f) Q := wp_gR (b := 8) h rfl rfl (by decide) kk
theorem wp_R11_3 {f : Nat → Option β} (h : Ok L wl dr tx w) (h0 : wl ≠ 0) (kk : Wp (f wl) Q) : Wp ((fgR w 6 11 3).bind f) Q := wp_gR h rfl rfl h0 kk
theorem wp_R11_4 {f : Nat → Option β} (h : Ok L wl dr tx w) (kk : Wp (f 40) Q) : Wp ((fgR w 6 11 4).bind f) Q := wp_gR (b := 40) h rfl rfl (by decide) kk
theorem wp_R11_5 {f : Nat → Option β} (h : Ok L wl dr tx w) (kk : Wp (f 44) Q) : Wp ((fgR w 6 11 5).bind f) Q := wp_gR (b := 44) h rfl rfl (by decide) kk
theorem wp_R11_6 {f : Nat → Option β} (h : Ok L wl dr tx w) (kk : Wp (f 48) Q) : Wp ((fgR w 6 11 6).bind f) Q := wp_gR (b := 48) h rfl rfl (by decide) kk
theorem wp_R11_7 {f : Nat → Option β} (h : Ok L wl dr tx w) (kk : Wp (f 50) Q) : Wp ((fgR w 6 11 7).bind f) Q := wp_gR (b := 50) h rfl rfl (by decide) kk
theorem wp_R11_8 {f : Nat → Option β} (h : Ok L wl dr tx w) (kk : Wp (f 172) Q) : Wp ((fgR w 6 11 8).bind f) Q := wp_gR (b := 172) h rfl rfl (by decide) kk
theorem wp_R11_9 {f : Nat → Option β} (h : Ok L wl dr tx w) (kk : Wp (f 173) Q) : Wp ((fgR w 6 11 9).bind f) Q := wp_gR (b := 173) h rfl rfl (by decide) kk
theorem wp_R11_10 {f : Nat → Option β} (h : Ok L wl dr tx w) (kk : Wp (f 176) Q) : Wp ((fgR w 6 11 10).bind f) Q := wp_gR (b := 176) h rfl rfl (by decide) kk
theorem wp_R11_11 {f : Nat → Option β} (h : Ok L wl dr tx w) (kk : Wp (f 186) Q) : Wp ((fgR w 6 11 11).bind f) Q := wp_gR (b := 186) h rfl rfl (by decide) kk
theorem wp_R2_1 {f : Nat → Option β} (h : Ok L wl dr tx w) (hb : isLw a) (kk : Wp (f (a + 1)) Q) : Wp ((fgR w a 2 1).bind f) Q := wp_gR h (sh_Lw L hb) (rf_Lw_1 wl dr tx hb) (by omega) kk
theorem wp_R2_2 {f : Nat → Option β} (h : Ok L wl dr tx w) (hb : isLw a) (kk : Wp (f (a + 2)) Q) : Wp ((fgR w a 2 2).bind f) Q := wp_gR h (sh_Lw L hb) (rf_Lw_2 wl dr tx hb) (by omega) kk
theorem wp_R2_3 {f : Nat → Option β} (h : Ok L wl dr tx w) (hb : isLw a) (kk : Wp (f (a + 3)) Q) : Wp ((fgR w a 2 3).bind f) Q := wp_gR h (sh_Lw L hb) (rf_Lw_3 wl dr tx hb) (by omega) kk
theorem wp_R2_4 {f : Nat → Option β} (h : Ok L wl dr tx w) (hb : isLw a) (kk : Wp (f (a + 4)) Q) : Wp ((fgR w a 2 4).bind f) Q := wp_gR h (sh_Lw L hb) (rf_Lw_4 wl dr tx hb) (by omega) kk
theorem wp_R12_1 {f : Nat → Option β} (h : Ok L wl dr tx w) (kk : Wp (f 224) Q) : Wp ((fgR w 223 12 1).bind f) Q := wp_gR (b := 224) h rfl rfl (by decide) kk
theorem wp_R12_3 {f : Nat → Option β} (h : Ok L wl dr tx w) (kk : Wp (f 225) Q) : Wp ((fgR w 223 12 3).bind f) Q := wp_gR (b := 225) h rfl rfl (by decide) kk
theorem wp_R12_5 {f : Nat → Option β} (h : Ok L wl dr tx w) (kk : Wp (f 226) Q) : Wp ((fgR w 223 12 5).bind f) Q := wp_gR (b := 226) h rfl rfl (by decide) kk
theorem wp_R12_6 {f : Nat → Option β} (h : Ok L wl dr tx w) (kk : Wp (f 227) Q) : Wp ((fgR w 223 12 6).bind f) Q := wp_gR (b := 227) h rfl rfl (by decide) kk
theorem wp_R12_7 {f : Nat → Option β} (h : Ok L wl dr tx w) (kk : Wp (f 228) Q) : Wp ((fgR w 223 12 7).bind f) Q := wp_gR (b := 228) h rfl rfl (by decide) kk
theorem wp_R12_8 {f : Nat → Option β} (h : Ok L wl dr tx w) (kk : Wp (f 229) Q) : Wp ((fgR w 223 12 8).bind f) Q := wp_gR (b := 229) h rfl rfl (by decide) kk
theorem wp_R12_9 {f : Nat → Option β} (h : Ok L wl dr tx w) (kk : Wp (f 230) Q) : Wp ((fgR w 223 12 9).bind f) Q := wp_gR (b := 230) h rfl rfl (by decide) kk
theorem wp_R12_21 {f : Nat → Option β} (h : Ok L wl dr tx w) (kk : Wp (f 231) Q) : Wp ((fgR w 223 12 21).bind f) Q := wp_gR (b := 231) h rfl rfl (by decide) kk
theorem wp_R12_22 {f : Nat → Option β} (h : Ok L wl dr tx w) (kk : Wp (f 232) Q) : Wp ((fgR w 223 12 22).bind f) Q := wp_gR (b := 232) h rfl rfl (by decide) kk
theorem wp_R12_23 {f : Nat → Option β} (h : Ok L wl dr tx w) (kk : Wp (f 233) Q) : Wp ((fgR w 223 12 23).bind f) Q := wp_gR (b := 233) h rfl rfl (by decide) kk
theorem wp_R12_24 {f : Nat → Option β} (h : Ok L wl dr tx w) (kk : Wp (f 234) Q) : Wp ((fgR w 223 12 24).bind f) Q := wp_gR (b := 234) h rfl rfl (by decide) kk
theorem wp_R12_25 {f : Nat → Option β} (h : Ok L wl dr tx w) (kk : Wp (f 235) Q) : Wp ((fgR w 223 12 25).bind f) Q := wp_gR (b := 235) h rfl rfl (by decide) kk
theorem wp_R12_26 {f : Nat → Option β} (h : Ok L wl dr tx w) (kk : Wp (f 236) Q) : Wp ((fgR w 223 12 26).bind f) Q := wp_gR (b := 236) h rfl rfl (by decide) kk
theorem wp_R12_27 {f : Nat → Option β} (h : Ok L wl dr tx w) (kk : Wp (f 237) Q) : Wp ((fgR w 223 12 27).bind f) Q := wp_gR (b := 237) h rfl rfl (by decide) kk
theorem wp_R12_28 {f : Nat → Option β} (h : Ok L wl dr tx w) (kk : Wp (f 238) Q) : Wp ((fgR w 223 12 28).bind f) Q := wp_gR (b := 238) h rfl rfl (by decide) kk
theorem wp_R12_29 {f : Nat → Option β} (h : Ok L wl dr tx w) (kk : Wp (f 239) Q) : Wp ((fgR w 223 12 29).bind f) Q := wp_gR (b := 239) h rfl rfl (by decide) kk
theorem wp_R12_30 {f : Nat → Option β} (h : Ok L wl dr tx w) (kk : Wp (f 240) Q) : Wp ((fgR w 223 12 30).bind f) Q := wp_gR (b := 240) h rfl rfl (by decide) kk
theorem wp_R12_31 {f : Nat → Option β} (h : Ok L wl dr tx w) (kk : Wp (f 241) Q) : Wp ((fgR w 223 12 31).bind f) Q := wp_gR (b := 241) h rfl rfl (by decide) kk
theorem wp_R12_32 {f : Nat → Option β} (h : Ok L wl dr tx w) (kk : Wp (f 242) Q) : Wp ((fgR w 223 12 32).bind f) Q := wp_gR (b := 242) h rfl rfl (by decide) kk
theorem wp_R12_33 {f : Nat → Option β} (h : Ok L wl dr tx w) (kk : Wp (f 243) Q) : Wp ((fgR w 223 12 33).bind f) Q := wp_gR (b := 243) h rfl rfl (by decide) kk
theorem wp_R12_34 {f : Nat → Option β} (h : Ok L wl dr tx w) (kk : Wp (f 244) Q) : Wp ((fgR w 223 12 34).bind f) Q := wp_gR (b := 244) h rfl rfl (by decide) kk
theorem wp_R12_36 {f : Nat → Option β} (h : Ok L wl dr tx w) (kk : Wp (f 245) Q) : Wp ((fgR w 223 12 36).bind f) Q := wp_gR (b := 245) h rfl rfl (by decide) kk
theorem wp_R12_37 {f : Nat → Option β} (h : Ok L wl dr tx w) (kk : Wp (f 246) Q) : Wp ((fgR w 223 12 37).bind f) Q := wp_gR (b := 246) h rfl rfl (by decide) kk
theorem wp_R12_38 {f : Nat → Option β} (h : Ok L wl dr tx w) (kk : Wp (f 247) Q) : Wp ((fgR w 223 12 38).bind f) Q := wp_gR (b := 247) h rfl rfl (by decide) kk
theorem wp_R12_39 {f : Nat → Option β} (h : Ok L wl dr tx w) (kk : Wp (f 248) Q) : Wp ((fgR w 223 12 39).bind f) Q := wp_gR (b := 248) h rfl rfl (by decide) kk
theorem wp_R12_40 {f : Nat → Option β} (h : Ok L wl dr tx w) (kk : Wp (f 249) Q) : Wp ((fgR w 223 12 40).bind f) Q := wp_gR (b := 249) h rfl rfl (by decide) kk
theorem wp_R12_42 {f : Nat → Option β} (h : Ok L wl dr tx w) (kk : Wp (f 250) Q) : Wp ((fgR w 223 12 42).bind f) Q := wp_gR (b := 250) h rfl rfl (by decide) kk
theorem wp_R12_43 {f : Nat → Option β} (h : Ok L wl dr tx w) (kk : Wp (f 251) Q) : Wp ((fgR w 223 12 43).bind f) Q := wp_gR (b := 251) h rfl rfl (by decide) kk
theorem wp_R12_44 {f : Nat → Option β} (h : Ok L wl dr tx w) (kk : Wp (f 252) Q) : Wp ((fgR w 223 12 44).bind f) Q := wp_gR (b := 252) h rfl rfl (by decide) kk
theorem wp_R12_46 {f : Nat → Option β} (h : Ok L wl dr tx w) (kk : Wp (f 253) Q) : Wp ((fgR w 223 12 46).bind f) Q := wp_gR (b := 253) h rfl rfl (by decide) kk
theorem wp_R12_47 {f : Nat → Option β} (h : Ok L wl dr tx w) (kk : Wp (f 254) Q) : Wp ((fgR w 223 12 47).bind f) Q := wp_gR (b := 254) h rfl rfl (by decide) kk
theorem wp_R12_49 {f : Nat → Option β} (h : Ok L wl dr tx w) (kk : Wp (f 255) Q) : Wp ((fgR w 223 12 49).bind f) Q := wp_gR (b := 255) h rfl rfl (by decide) kk
theorem wp_R12_50 {f : Nat → Option β} (h : Ok L wl dr tx w) (kk : Wp (f 256) Q) : Wp ((fgR w 223 12 50).bind f) Q := wp_gR (b := 256) h rfl rfl (by decide) kk
theorem wp_R12_56 {f : Nat → Option β} (h : Ok L wl dr tx w) (kk : Wp (f 257) Q) : Wp ((fgR w 223 12 56).bind f) Q := wp_gR (b := 257) h rfl rfl (by decide) kk
theorem wp_R12_57 {f : Nat → Option β} (h : Ok L wl dr tx w) (kk : Wp (f 258) Q) : Wp ((fgR w 223 12 57).bind f) Q := wp_gR (b := 258) h rfl rfl (by decide) kk
theorem wp_R12_59 {f : Nat → Option β} (h : Ok L wl dr tx w) (kk : Wp (f 259) Q) : Wp ((fgR w 223 12 59).bind f) Q := wp_gR (b := 259) h rfl rfl (by decide) kk
theorem wp_R12_60 {f : Nat → Option β} (h : Ok L wl dr tx w) (kk : Wp (f 260) Q) : Wp ((fgR w 223 12 60).bind f) Q := wp_gR (b := 260) h rfl rfl (by decide) kk
theorem wp_R12_61 {f : Nat → Option β} (h : Ok L wl dr tx w) (kk : Wp (f 261) Q) : Wp ((fgR w 223 12 61).bind f) Q := wp_gR (b := 261) h rfl rfl (by decide) kk
theorem wp_R12_62 {f : Nat → Option β} (h : Ok L wl dr tx w) (kk : Wp (f 262) Q) : Wp ((fgR w 223 12 62).bind f) Q := wp_gR (b := 262) h rfl rfl (by decide) kk
theorem wp_R12_64 {f : Nat → Option β} (h : Ok L wl dr tx w) (kk : Wp (f 263) Q) : Wp ((fgR w 223 12 64).bind f) Q := wp_gR (b := 263) h rfl rfl (by decide) kk
theorem wp_R12_65 {f : Nat → Option β} (h : Ok L wl dr tx w) (kk : Wp (f 264) Q) : Wp ((fgR w 223 12 65).bind f) Q := wp_gR (b := 264) h rfl rfl (by decide) kk
theorem wp_R12_66 {f : Nat → Option β} (h : Ok L wl dr tx w) (kk : Wp (f 265) Q) : Wp ((fgR w 223 12 66).bind f) Q := wp_gR (b := 265) h rfl rfl (by decide) kk
theorem wp_R12_67 {f : Nat → Option β} (h : Ok L wl dr tx w) (kk : Wp (f 266) Q) : Wp ((fgR w 223 12 67).bind f) Q := wp_gR (b := 266) h rfl rfl (by decide) kk
theorem wp_R3_1 {f : Nat → Option β} (h : Ok L wl dr tx w) (kk : Wp (f 174) Q) : Wp ((fgR w 173 3 1).bind f) Q := wp_gR (b := 174) h rfl rfl (by decide) kk
theorem wp_R3_2 {f : Nat → Option β} (h : Ok L wl dr tx w) (kk : Wp (f 175) Q) : Wp ((fgR w 173 3 2).bind f) Q := wp_gR (b := 175) h rfl rfl (by decide) kk
theorem wp_R5_0 {f : Nat → Option β} (h : Ok L wl dr tx w) (kk : Wp (f 187) Q) : Wp ((fgR w 186 5 0).bind f) Q := wp_gR (b := 187) h rfl rfl (by decide) kk
theorem wp_R5_1 {f : Nat → Option β} (h : Ok L wl dr tx w) (kk : Wp (f 188) Q) : Wp ((fgR w 186 5 1).bind f) Q := wp_gR (b := 188) h rfl rfl (by decide) kk
theorem wp_R5_2 {f : Nat → Option β} (h : Ok L wl dr tx w) (kk : Wp (f 195) Q) : Wp ((fgR w 186 5 2).bind f) Q := wp_gR (b := 195) h rfl rfl (by decide) kk
theorem wp_R4_2 {f : Nat → Option β} (h : Ok L wl dr tx w) (kk : Wp (f 51) Q) : Wp ((fgR w 50 4 2).bind f) Q := wp_gR (b := 51) h rfl rfl (by decide) kk
theorem wp_R6_1 {f : Nat → Option β} (h : Ok L wl dr tx w) (h0 : dr ≠ 0) (kk : Wp (f dr) Q) : Wp ((fgR w 8 6 1).bind f) Q := wp_gR h rfl rfl h0 kk
theorem wp_R6_3 {f : Nat → Option β} (h : Ok L wl dr tx w) (kk : Wp (f 21) Q) : Wp ((fgR w 8 6 3).bind f) Q := wp_gR (b := 21) h rfl rfl (by decide) kk
theorem wp_R6_4 {f : Nat → Option β} (h : Ok L wl dr tx w) (kk : Wp (f 27) Q) : Wp ((fgR w 8 6 4).bind f) Q := wp_gR (b := 27) h rfl rfl (by decide) kk
theorem wp_R7_0 {f : Nat → Option β} (h : Ok L wl dr tx w) (kk : Wp (f 22) Q) : Wp ((fgR w 21 7 0).bind f) Q := wp_gR (b := 22) h rfl rfl (by decide) kk
theorem wp_R7_1 {f : Nat → Option β} (h : Ok L wl dr tx w) (kk : Wp (f 23) Q) : Wp ((fgR w 21 7 1).bind f) Q := wp_gR (b := 23) h rfl rfl (by decide) kk
theorem wp_R7_2 {f : Nat → Option β} (h : Ok L wl dr tx w) (kk : Wp (f 24) Q) : Wp ((fgR w 21 7 2).bind f) Q := wp_gR (b := 24) h rfl rfl (by decide) kk
theorem wp_R7_3 {f : Nat → Option β} (h : Ok L wl dr tx w) (kk : Wp (f 25) Q) : Wp ((fgR w 21 7 3).bind f) Q := wp_gR (b := 25) h rfl rfl (by decide) kk
theorem wp_R7_4 {f : Nat → Option β} (h : Ok L wl dr tx w) (h0 : tx ≠ 0) (kk : Wp (f tx) Q) : Wp ((fgR w 21 7 4).bind f) Q := wp_gR h rfl rfl h0 kk
theorem wp_R8_1 {f : Nat → Option β} (h : Ok L wl dr tx w) (hb : isSl a) (kk : Wp (f (a + 1)) Q) : Wp ((fgR w a 8 1).bind f) Q := wp_gR h (sh_Sl L hb) (rf_Sl_1 wl dr tx hb) (by omega) kk
theorem wp_R8_2 {f : Nat → Option β} (h : Ok L wl dr tx w) (hb : isSl a) (kk : Wp (f (a + 5)) Q) : Wp ((fgR w a 8 2).bind f) Q := wp_gR h (sh_Sl L hb) (rf_Sl_2 wl dr tx hb) (by omega) kk
theorem wp_R9_3 {f : Nat → Option β} (h : Ok L wl dr tx w) (hb : isSt a) (kk : Wp (f (a + 1)) Q) : Wp ((fgR w a 9 3).bind f) Q := wp_gR h (sh_St L hb) (rf_St_3 wl dr tx hb) (by omega) kk
theorem wp_R9_4 {f : Nat → Option β} (h : Ok L wl dr tx w) (hb : isSt a) (kk : Wp (f (a + 2)) Q) : Wp ((fgR w a 9 4).bind f) Q := wp_gR h (sh_St L hb) (rf_St_4 wl dr tx hb) (by omega) kk
theorem wp_R9_5 {f : Nat → Option β} (h : Ok L wl dr tx w) (hb : isSt a) (kk : Wp (f (a + 3)) Q) : Wp ((fgR w a 9 5).bind f) Q := wp_gR h (sh_St L hb) (rf_St_5 wl dr tx hb) (by omega) kk
theorem wp_R10_7 {f : Nat → Option β} (h : Ok L wl dr tx w) (hb : isWi a) (kk : Wp (f (a + 1)) Q) : Wp ((fgR w a 10 7).bind f) Q := wp_gR h (sh_Wi L hb) (rf_Wi_7 wl dr tx hb) (by omega) kk
theorem wp_R10_8 {f : Nat → Option β} (h : Ok L wl dr tx w) (hb : isWi a) (kk : Wp (f (a + 2)) Q) : Wp ((fgR w a 10 8).bind f) Q := wp_gR h (sh_Wi L hb) (rf_Wi_8 wl dr tx hb) (by omega) kk
theorem wp_R10_9 {f : Nat → Option β} (h : Ok L wl dr tx w) (hb : isWi a) (kk : Wp (f (a + 3)) Q) : Wp ((fgR w a 10 9).bind f) Q := wp_gR h (sh_Wi L hb) (rf_Wi_9 wl dr tx hb) (by omega) kk
theorem wp_R10_10 {f : Nat → Option β} (h : Ok L wl dr tx w) (hb : isWi a) (kk : Wp (f (a + 4)) Q) : Wp ((fgR w a 10 10).bind f) Q := wp_gR h (sh_Wi L hb) (rf_Wi_10 wl dr tx hb) (by omega) kk
theorem wp_R10_11 {f : Nat → Option β} (h : Ok L wl dr tx w) (hb : isWi a) (kk : Wp (f (a + 5)) Q) : Wp ((fgR w a 10 11).bind f) Q := wp_gR h (sh_Wi L hb) (rf_Wi_11 wl dr tx hb) (by omega) kk
theorem wp_R10_12 {f : Nat → Option β} (h : Ok L wl dr tx w) (hb : isWi a) (kk : Wp (f (a + 6)) Q) : Wp ((fgR w a 10 12).bind f) Q := wp_gR h (sh_Wi L hb) (rf_Wi_12 wl dr tx hb) (by omega) kk
theorem wp_R10_13 {f : Nat → Option β} (h : Ok L wl dr tx w) (hb : isWi a) (kk : Wp (f (a + 7)) Q) : Wp ((fgR w a 10 13).bind f) Q := wp_gR h (sh_Wi L hb) (rf_Wi_13 wl dr tx hb) (by omega) kk
end RF

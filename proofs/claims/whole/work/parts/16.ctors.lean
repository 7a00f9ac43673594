def iX5 (k : Nat) (cs : gC) : gC := ci (ci (ci (ci (ci (ci (ci (ci (cr (cz (cr (cz (cs) (k + 1 + 0)) k 0) (k + 1 + 1)) k 1) k 2 (-1)) k 3 (-1)) k 4 0) k 5 0) k 6 0) k 7 0) k 8 0) k 9 0
set_option maxRecDepth 100000 in
set_option maxHeartbeats 4000000 in
theorem nX5 {l : Launch} {D : va_G} {cA : Nat → ClassId} {ad : Nat → Nat} {B : Nat} (hA : cAd 0 B ad) {k : Nat} (hk : gK 0 k = 5) (hnc : k + 3 ≤ gNC 0) {cs : gC} : cM l yX5_init cX5_init 1 1 2 10 0 B D cA ad (k + 1) cs [.ref (ad k)] (k + 1 + 2) (iX5 k cs) := by
  refine c_met (by decide) rfl (Nat.le_of_ble_eq_true rfl) ?_
  intro p e s m args below meth c ls hC hret hlk hin hU hB hH hl
  have hS : va_S (cB B) s.heap s.heap [] := va_S.rf
  obtain ⟨hx, hb, hml, hown, hts⟩ := id hC
  refine lv_aload_n (pc := 0) hx hb dX5_init_0 rfl (lv_at hl 0 rfl) ?_
  refine c_objInit (pc := 1) hC hl.1 km_X5_3 koi koc (Nat.le_of_ble_eq_true rfl) (Nat.le_of_ble_eq_true rfl) dX5_init_1 _ ?_
  refine lv_aload_n (pc := 4) hx hb dX5_init_4 rfl (lv_at hl 0 rfl) ?_
  refine lv_iconst (v := 5) (pc := 5) hx hb dX5_init_5 (by decide) ?_
  refine c_newa (atype := .int) (ty := .int) (c0 := 20) (pc := 6) hC hU hA (by omega) hH hS hB (gk_5_0 hk) (gn_5_0 hk) (by decide) (by decide) rfl rfl rfl (fun _ => Iff.rfl) kac_int (by decide) rfl (by decide) (Nat.le_of_ble_eq_true rfl) (Nat.le_of_ble_eq_true rfl) dX5_init_6 (fun H hH hS => ?_)
  refine c_putr (v := k + 1 + 0) (pc := 8) hC hin hU hA (by omega) hH hS (by omega) hk g_cl5 rfl ct5 0 (by decide) kg_X5_9 rfl rfl rfl rfl dX5_init_8 (fun H locs hH hS => ?_)
  refine lv_aload_n (pc := 11) hx hb dX5_init_11 rfl (lv_at hl 0 rfl) ?_
  refine lv_iconst (v := 5) (pc := 12) hx hb dX5_init_12 (by decide) ?_
  refine c_newa (atype := .int) (ty := .int) (c0 := 20) (pc := 13) hC hU hA (by omega) hH hS hB (gk_5_1 hk) (gn_5_1 hk) (by decide) (by decide) rfl rfl rfl (fun _ => Iff.rfl) kac_int (by decide) rfl (by decide) (Nat.le_of_ble_eq_true rfl) (Nat.le_of_ble_eq_true rfl) dX5_init_13 (fun H hH hS => ?_)
  refine c_putr (v := k + 1 + 1) (pc := 15) hC hin hU hA (by omega) hH hS (by omega) hk g_cl5 rfl ct5 1 (by decide) kg_X5_15 rfl rfl rfl rfl dX5_init_15 (fun H locs hH hS => ?_)
  refine lv_aload_n (pc := 18) hx hb dX5_init_18 rfl (lv_at hl 0 rfl) ?_
  refine lv_iconst (v := (-1)) (pc := 19) hx hb dX5_init_19 (by decide) ?_
  refine c_puti (pc := 20) hC hin hU hA (by omega) hH hS (by omega) hk g_cl5 rfl ct5 2 (by decide) kg_X5_18 rfl rfl rfl dX5_init_20 (fun H locs hH hS => ?_)
  refine lv_aload_n (pc := 23) hx hb dX5_init_23 rfl (lv_at hl 0 rfl) ?_
  refine lv_iconst (v := (-1)) (pc := 24) hx hb dX5_init_24 (by decide) ?_
  refine c_puti (pc := 25) hC hin hU hA (by omega) hH hS (by omega) hk g_cl5 rfl ct5 3 (by decide) kg_X5_22 rfl rfl rfl dX5_init_25 (fun H locs hH hS => ?_)
  refine lv_aload_n (pc := 28) hx hb dX5_init_28 rfl (lv_at hl 0 rfl) ?_
  refine lv_iconst (v := 0) (pc := 29) hx hb dX5_init_29 (by decide) ?_
  refine c_puti (pc := 30) hC hin hU hA (by omega) hH hS (by omega) hk g_cl5 rfl ct5 4 (by decide) kg_X5_25 rfl rfl rfl dX5_init_30 (fun H locs hH hS => ?_)
  refine lv_aload_n (pc := 33) hx hb dX5_init_33 rfl (lv_at hl 0 rfl) ?_
  refine lv_iconst (v := 0) (pc := 34) hx hb dX5_init_34 (by decide) ?_
  refine c_puti (pc := 35) hC hin hU hA (by omega) hH hS (by omega) hk g_cl5 rfl ct5 5 (by decide) kg_X5_28 rfl rfl rfl dX5_init_35 (fun H locs hH hS => ?_)
  refine lv_aload_n (pc := 38) hx hb dX5_init_38 rfl (lv_at hl 0 rfl) ?_
  refine lv_iconst (v := 0) (pc := 39) hx hb dX5_init_39 (by decide) ?_
  refine c_puti (pc := 40) hC hin hU hA (by omega) hH hS (by omega) hk g_cl5 rfl ct5 6 (by decide) kg_X5_31 rfl rfl rfl dX5_init_40 (fun H locs hH hS => ?_)
  refine lv_aload_n (pc := 43) hx hb dX5_init_43 rfl (lv_at hl 0 rfl) ?_
  refine lv_iconst (v := 0) (pc := 44) hx hb dX5_init_44 (by decide) ?_
  refine c_puti (pc := 45) hC hin hU hA (by omega) hH hS (by omega) hk g_cl5 rfl ct5 7 (by decide) kg_X5_34 rfl rfl rfl dX5_init_45 (fun H locs hH hS => ?_)
  refine lv_aload_n (pc := 48) hx hb dX5_init_48 rfl (lv_at hl 0 rfl) ?_
  refine lv_iconst (v := 0) (pc := 49) hx hb dX5_init_49 (by decide) ?_
  refine c_puti (pc := 50) hC hin hU hA (by omega) hH hS (by omega) hk g_cl5 rfl ct5 8 (by decide) kg_X5_37 rfl rfl rfl dX5_init_50 (fun H locs hH hS => ?_)
  refine lv_aload_n (pc := 53) hx hb dX5_init_53 rfl (lv_at hl 0 rfl) ?_
  refine lv_iconst (v := 0) (pc := 54) hx hb dX5_init_54 (by decide) ?_
  refine c_puti (pc := 55) hC hin hU hA (by omega) hH hS (by omega) hk g_cl5 rfl ct5 9 (by decide) kg_X5_40 rfl rfl rfl dX5_init_55 (fun H locs hH hS => ?_)
  exact c_vret (pc := 58) hC hret hlk hH hS rfl rfl dX5_init_58
def iX0 (k : Nat) (cs : gC) : gC := ci (ci (ci (cr (cz (cr (cz (cs) (k + 1 + 0)) k 0) (k + 1 + 1)) k 1) k 2 0) k 3 0) k 4 0
set_option maxRecDepth 100000 in
set_option maxHeartbeats 4000000 in
theorem nX0 {l : Launch} {D : va_G} {cA : Nat → ClassId} {ad : Nat → Nat} {B : Nat} (hA : cAd 0 B ad) {k : Nat} (hk : gK 0 k = 0) (hnc : k + 3 ≤ gNC 0) {cs : gC} : cM l yX0_init cX0_init 1 1 2 304 0 B D cA ad (k + 1) cs [.ref (ad k)] (k + 1 + 2) (iX0 k cs) := by
  refine c_met (by decide) rfl (Nat.le_of_ble_eq_true rfl) ?_
  intro p e s m args below meth c ls hC hret hlk hin hU hB hH hl
  have hS : va_S (cB B) s.heap s.heap [] := va_S.rf
  obtain ⟨hx, hb, hml, hown, hts⟩ := id hC
  refine lv_aload_n (pc := 0) hx hb dX0_init_0 rfl (lv_at hl 0 rfl) ?_
  refine c_objInit (pc := 1) hC hl.1 km_X0_1 koi koc (Nat.le_of_ble_eq_true rfl) (Nat.le_of_ble_eq_true rfl) dX0_init_1 _ ?_
  refine lv_aload_n (pc := 4) hx hb dX0_init_4 rfl (lv_at hl 0 rfl) ?_
  refine lv_sipush (v := 272) (pc := 5) hx hb dX0_init_5 (by decide) ?_
  refine c_newa (atype := .int) (ty := .int) (c0 := 20) (pc := 8) hC hU hA (by omega) hH hS hB (gk_0_0 hk) (gn_0_0 hk) (by decide) (by decide) rfl rfl rfl (fun _ => Iff.rfl) kac_int (by decide) rfl (by decide) (Nat.le_of_ble_eq_true rfl) (Nat.le_of_ble_eq_true rfl) dX0_init_8 (fun H hH hS => ?_)
  refine c_putr (v := k + 1 + 0) (pc := 10) hC hin hU hA (by omega) hH hS (by omega) hk g_cl0 rfl ct0 0 (by decide) kg_X0_9 rfl rfl rfl rfl dX0_init_10 (fun H locs hH hS => ?_)
  refine lv_aload_n (pc := 13) hx hb dX0_init_13 rfl (lv_at hl 0 rfl) ?_
  refine lv_bipush (v := 32) (pc := 14) hx hb dX0_init_14 (by decide) ?_
  refine c_newa (atype := .int) (ty := .int) (c0 := 20) (pc := 16) hC hU hA (by omega) hH hS hB (gk_0_1 hk) (gn_0_1 hk) (by decide) (by decide) rfl rfl rfl (fun _ => Iff.rfl) kac_int (by decide) rfl (by decide) (Nat.le_of_ble_eq_true rfl) (Nat.le_of_ble_eq_true rfl) dX0_init_16 (fun H hH hS => ?_)
  refine c_putr (v := k + 1 + 1) (pc := 18) hC hin hU hA (by omega) hH hS (by omega) hk g_cl0 rfl ct0 1 (by decide) kg_X0_13 rfl rfl rfl rfl dX0_init_18 (fun H locs hH hS => ?_)
  refine lv_aload_n (pc := 21) hx hb dX0_init_21 rfl (lv_at hl 0 rfl) ?_
  refine lv_iconst (v := 0) (pc := 22) hx hb dX0_init_22 (by decide) ?_
  refine c_puti (pc := 23) hC hin hU hA (by omega) hH hS (by omega) hk g_cl0 rfl ct0 2 (by decide) kg_X0_16 rfl rfl rfl dX0_init_23 (fun H locs hH hS => ?_)
  refine lv_aload_n (pc := 26) hx hb dX0_init_26 rfl (lv_at hl 0 rfl) ?_
  refine lv_iconst (v := 0) (pc := 27) hx hb dX0_init_27 (by decide) ?_
  refine c_puti (pc := 28) hC hin hU hA (by omega) hH hS (by omega) hk g_cl0 rfl ct0 3 (by decide) kg_X0_20 rfl rfl rfl dX0_init_28 (fun H locs hH hS => ?_)
  refine lv_aload_n (pc := 31) hx hb dX0_init_31 rfl (lv_at hl 0 rfl) ?_
  refine lv_iconst (v := 0) (pc := 32) hx hb dX0_init_32 (by decide) ?_
  refine c_puti (pc := 33) hC hin hU hA (by omega) hH hS (by omega) hk g_cl0 rfl ct0 4 (by decide) kg_X0_23 rfl rfl rfl dX0_init_33 (fun H locs hH hS => ?_)
  exact c_vret (pc := 36) hC hret hlk hH hS rfl rfl dX0_init_36
def iX8 (k : Nat) (cs : gC) : gC := ci (ci (ci (ci (ci (ci (cr (iX0 (k + 1 + 11) (cz (cr (cz (cr (cz (cr (cz (cr (cz (cr (cz (cr (cz (cr (cz (cr (cz (cr (cz (cr (cz (cr (cz (cs) (k + 1 + 0)) k 0) (k + 1 + 1)) k 1) (k + 1 + 2)) k 2) (k + 1 + 3)) k 3) (k + 1 + 4)) k 4) (k + 1 + 5)) k 5) (k + 1 + 6)) k 6) (k + 1 + 7)) k 7) (k + 1 + 8)) k 8) (k + 1 + 9)) k 9) (k + 1 + 10)) k 10) (k + 1 + 11))) k 11) k 12 0) k 13 0) k 14 0) k 15 0) k 16 9) k 17 0
set_option maxRecDepth 100000 in
set_option maxHeartbeats 4000000 in
theorem nX8 {l : Launch} {D : va_G} {cA : Nat → ClassId} {ad : Nat → Nat} {B : Nat} (hA : cAd 0 B ad) {k : Nat} (hk : gK 0 k = 8) (hnc : k + 15 ≤ gNC 0) {cs : gC} : cM l yX8_init cX8_init 1 2 14 457 0 B D cA ad (k + 1) cs [.ref (ad k)] (k + 1 + 14) (iX8 k cs) := by
  refine c_met (by decide) rfl (Nat.le_of_ble_eq_true rfl) ?_
  intro p e s m args below meth c ls hC hret hlk hin hU hB hH hl
  have hS : va_S (cB B) s.heap s.heap [] := va_S.rf
  obtain ⟨hx, hb, hml, hown, hts⟩ := id hC
  refine lv_aload_n (pc := 0) hx hb dX8_init_0 rfl (lv_at hl 0 rfl) ?_
  refine c_objInit (pc := 1) hC hl.1 km_X8_3 koi koc (Nat.le_of_ble_eq_true rfl) (Nat.le_of_ble_eq_true rfl) dX8_init_1 _ ?_
  refine lv_aload_n (pc := 4) hx hb dX8_init_4 rfl (lv_at hl 0 rfl) ?_
  refine lv_bipush (v := 8) (pc := 5) hx hb dX8_init_5 (by decide) ?_
  refine c_newl (pc := 7) hC hU hA (by omega) hH hS hB (gk_8_0 hk) (gn_8_0 hk) kac_long (by decide) rfl (by decide) (Nat.le_of_ble_eq_true rfl) (Nat.le_of_ble_eq_true rfl) dX8_init_7 (fun H hH hS => ?_)
  refine c_putr (v := k + 1 + 0) (pc := 9) hC hin hU hA (by omega) hH hS (by omega) hk g_cl8 rfl ct8 0 (by decide) kg_X8_9 rfl rfl rfl rfl dX8_init_9 (fun H locs hH hS => ?_)
  refine lv_aload_n (pc := 12) hx hb dX8_init_12 rfl (lv_at hl 0 rfl) ?_
  refine lv_iconst (v := 5) (pc := 13) hx hb dX8_init_13 (by decide) ?_
  refine c_newl (pc := 14) hC hU hA (by omega) hH hS hB (gk_8_1 hk) (gn_8_1 hk) kac_long (by decide) rfl (by decide) (Nat.le_of_ble_eq_true rfl) (Nat.le_of_ble_eq_true rfl) dX8_init_14 (fun H hH hS => ?_)
  refine c_putr (v := k + 1 + 1) (pc := 16) hC hin hU hA (by omega) hH hS (by omega) hk g_cl8 rfl ct8 1 (by decide) kg_X8_15 rfl rfl rfl rfl dX8_init_16 (fun H locs hH hS => ?_)
  refine lv_aload_n (pc := 19) hx hb dX8_init_19 rfl (lv_at hl 0 rfl) ?_
  refine lv_iconst (v := 5) (pc := 20) hx hb dX8_init_20 (by decide) ?_
  refine c_newa (atype := .int) (ty := .int) (c0 := 20) (pc := 21) hC hU hA (by omega) hH hS hB (gk_8_2 hk) (gn_8_2 hk) (by decide) (by decide) rfl rfl rfl (fun _ => Iff.rfl) kac_int (by decide) rfl (by decide) (Nat.le_of_ble_eq_true rfl) (Nat.le_of_ble_eq_true rfl) dX8_init_21 (fun H hH hS => ?_)
  refine c_putr (v := k + 1 + 2) (pc := 23) hC hin hU hA (by omega) hH hS (by omega) hk g_cl8 rfl ct8 2 (by decide) kg_X8_18 rfl rfl rfl rfl dX8_init_23 (fun H locs hH hS => ?_)
  refine lv_aload_n (pc := 26) hx hb dX8_init_26 rfl (lv_at hl 0 rfl) ?_
  refine lv_iconst (v := 5) (pc := 27) hx hb dX8_init_27 (by decide) ?_
  refine c_newa (atype := .int) (ty := .int) (c0 := 20) (pc := 28) hC hU hA (by omega) hH hS hB (gk_8_3 hk) (gn_8_3 hk) (by decide) (by decide) rfl rfl rfl (fun _ => Iff.rfl) kac_int (by decide) rfl (by decide) (Nat.le_of_ble_eq_true rfl) (Nat.le_of_ble_eq_true rfl) dX8_init_28 (fun H hH hS => ?_)
  refine c_putr (v := k + 1 + 3) (pc := 30) hC hin hU hA (by omega) hH hS (by omega) hk g_cl8 rfl ct8 3 (by decide) kg_X8_22 rfl rfl rfl rfl dX8_init_30 (fun H locs hH hS => ?_)
  refine lv_aload_n (pc := 33) hx hb dX8_init_33 rfl (lv_at hl 0 rfl) ?_
  refine lv_iconst (v := 5) (pc := 34) hx hb dX8_init_34 (by decide) ?_
  refine c_newa (atype := .int) (ty := .int) (c0 := 20) (pc := 35) hC hU hA (by omega) hH hS hB (gk_8_4 hk) (gn_8_4 hk) (by decide) (by decide) rfl rfl rfl (fun _ => Iff.rfl) kac_int (by decide) rfl (by decide) (Nat.le_of_ble_eq_true rfl) (Nat.le_of_ble_eq_true rfl) dX8_init_35 (fun H hH hS => ?_)
  refine c_putr (v := k + 1 + 4) (pc := 37) hC hin hU hA (by omega) hH hS (by omega) hk g_cl8 rfl ct8 4 (by decide) kg_X8_25 rfl rfl rfl rfl dX8_init_37 (fun H locs hH hS => ?_)
  refine lv_aload_n (pc := 40) hx hb dX8_init_40 rfl (lv_at hl 0 rfl) ?_
  refine lv_bipush (v := 40) (pc := 41) hx hb dX8_init_41 (by decide) ?_
  refine c_newa (atype := .int) (ty := .int) (c0 := 20) (pc := 43) hC hU hA (by omega) hH hS hB (gk_8_5 hk) (gn_8_5 hk) (by decide) (by decide) rfl rfl rfl (fun _ => Iff.rfl) kac_int (by decide) rfl (by decide) (Nat.le_of_ble_eq_true rfl) (Nat.le_of_ble_eq_true rfl) dX8_init_43 (fun H hH hS => ?_)
  refine c_putr (v := k + 1 + 5) (pc := 45) hC hin hU hA (by omega) hH hS (by omega) hk g_cl8 rfl ct8 5 (by decide) kg_X8_28 rfl rfl rfl rfl dX8_init_45 (fun H locs hH hS => ?_)
  refine lv_aload_n (pc := 48) hx hb dX8_init_48 rfl (lv_at hl 0 rfl) ?_
  refine lv_bipush (v := 16) (pc := 49) hx hb dX8_init_49 (by decide) ?_
  refine c_newa (atype := .int) (ty := .int) (c0 := 20) (pc := 51) hC hU hA (by omega) hH hS hB (gk_8_6 hk) (gn_8_6 hk) (by decide) (by decide) rfl rfl rfl (fun _ => Iff.rfl) kac_int (by decide) rfl (by decide) (Nat.le_of_ble_eq_true rfl) (Nat.le_of_ble_eq_true rfl) dX8_init_51 (fun H hH hS => ?_)
  refine c_putr (v := k + 1 + 6) (pc := 53) hC hin hU hA (by omega) hH hS (by omega) hk g_cl8 rfl ct8 6 (by decide) kg_X8_31 rfl rfl rfl rfl dX8_init_53 (fun H locs hH hS => ?_)
  refine lv_aload_n (pc := 56) hx hb dX8_init_56 rfl (lv_at hl 0 rfl) ?_
  refine lv_bipush (v := 16) (pc := 57) hx hb dX8_init_57 (by decide) ?_
  refine c_newa (atype := .int) (ty := .int) (c0 := 20) (pc := 59) hC hU hA (by omega) hH hS hB (gk_8_7 hk) (gn_8_7 hk) (by decide) (by decide) rfl rfl rfl (fun _ => Iff.rfl) kac_int (by decide) rfl (by decide) (Nat.le_of_ble_eq_true rfl) (Nat.le_of_ble_eq_true rfl) dX8_init_59 (fun H hH hS => ?_)
  refine c_putr (v := k + 1 + 7) (pc := 61) hC hin hU hA (by omega) hH hS (by omega) hk g_cl8 rfl ct8 7 (by decide) kg_X8_34 rfl rfl rfl rfl dX8_init_61 (fun H locs hH hS => ?_)
  refine lv_aload_n (pc := 64) hx hb dX8_init_64 rfl (lv_at hl 0 rfl) ?_
  refine lv_bipush (v := 16) (pc := 65) hx hb dX8_init_65 (by decide) ?_
  refine c_newa (atype := .int) (ty := .int) (c0 := 20) (pc := 67) hC hU hA (by omega) hH hS hB (gk_8_8 hk) (gn_8_8 hk) (by decide) (by decide) rfl rfl rfl (fun _ => Iff.rfl) kac_int (by decide) rfl (by decide) (Nat.le_of_ble_eq_true rfl) (Nat.le_of_ble_eq_true rfl) dX8_init_67 (fun H hH hS => ?_)
  refine c_putr (v := k + 1 + 8) (pc := 69) hC hin hU hA (by omega) hH hS (by omega) hk g_cl8 rfl ct8 8 (by decide) kg_X8_37 rfl rfl rfl rfl dX8_init_69 (fun H locs hH hS => ?_)
  refine lv_aload_n (pc := 72) hx hb dX8_init_72 rfl (lv_at hl 0 rfl) ?_
  refine lv_bipush (v := 16) (pc := 73) hx hb dX8_init_73 (by decide) ?_
  refine c_newa (atype := .int) (ty := .int) (c0 := 20) (pc := 75) hC hU hA (by omega) hH hS hB (gk_8_9 hk) (gn_8_9 hk) (by decide) (by decide) rfl rfl rfl (fun _ => Iff.rfl) kac_int (by decide) rfl (by decide) (Nat.le_of_ble_eq_true rfl) (Nat.le_of_ble_eq_true rfl) dX8_init_75 (fun H hH hS => ?_)
  refine c_putr (v := k + 1 + 9) (pc := 77) hC hin hU hA (by omega) hH hS (by omega) hk g_cl8 rfl ct8 9 (by decide) kg_X8_40 rfl rfl rfl rfl dX8_init_77 (fun H locs hH hS => ?_)
  refine lv_aload_n (pc := 80) hx hb dX8_init_80 rfl (lv_at hl 0 rfl) ?_
  refine lv_bipush (v := 16) (pc := 81) hx hb dX8_init_81 (by decide) ?_
  refine c_newa (atype := .int) (ty := .int) (c0 := 20) (pc := 83) hC hU hA (by omega) hH hS hB (gk_8_10 hk) (gn_8_10 hk) (by decide) (by decide) rfl rfl rfl (fun _ => Iff.rfl) kac_int (by decide) rfl (by decide) (Nat.le_of_ble_eq_true rfl) (Nat.le_of_ble_eq_true rfl) dX8_init_83 (fun H hH hS => ?_)
  refine c_putr (v := k + 1 + 10) (pc := 85) hC hin hU hA (by omega) hH hS (by omega) hk g_cl8 rfl ct8 10 (by decide) kg_X8_43 rfl rfl rfl rfl dX8_init_85 (fun H locs hH hS => ?_)
  refine lv_aload_n (pc := 88) hx hb dX8_init_88 rfl (lv_at hl 0 rfl) ?_
  refine c_new (pc := 89) hC hU hA (by omega) hH hS hB (gk_8_11 hk) g_cl0 cdf0 kcl_X8_46 kin0 kit0 (Nat.le_of_ble_eq_true rfl) (Nat.le_of_ble_eq_true rfl) dX8_init_89 (fun H hH hS => ?_)
  refine lv_dup (pc := 92) hx hb dX8_init_92 rfl ?_
  refine c_callI (pc := 93) (np := 0) (k := k + 1 + 11) (rest := [.ref (ad (k + 1 + 11)), .ref (ad k)]) hC hU hH hS hB hl.1 (nX0 (k := k + 1 + 11) hA (gk_8_11 hk) (by omega)) kic0 kit0 kii0 rfl (by decide) (Or.inr ⟨"CradleTreaty", List.mem_of_getElem? (i := 2) rfl⟩) ⟨(Nat.le_of_ble_eq_true rfl), (Nat.le_of_ble_eq_true rfl)⟩ ⟨(Nat.le_of_ble_eq_true rfl), (Nat.le_of_ble_eq_true rfl)⟩ rfl (Nat.le_of_ble_eq_true rfl) dX8_init_93 rfl (fun H locs hH hS => ?_)
  refine c_putr (v := k + 1 + 11) (pc := 96) hC hin hU hA (by omega) hH hS (by omega) hk g_cl8 rfl ct8 11 (by decide) kg_X8_49 rfl rfl rfl rfl dX8_init_96 (fun H locs hH hS => ?_)
  refine lv_aload_n (pc := 99) hx hb dX8_init_99 rfl (lv_at hl 0 rfl) ?_
  refine lv_iconst (v := 0) (pc := 100) hx hb dX8_init_100 (by decide) ?_
  refine c_puti (pc := 101) hC hin hU hA (by omega) hH hS (by omega) hk g_cl8 rfl ct8 12 (by decide) kg_X8_53 rfl rfl rfl dX8_init_101 (fun H locs hH hS => ?_)
  refine lv_aload_n (pc := 104) hx hb dX8_init_104 rfl (lv_at hl 0 rfl) ?_
  refine lv_iconst (v := 0) (pc := 105) hx hb dX8_init_105 (by decide) ?_
  refine c_puti (pc := 106) hC hin hU hA (by omega) hH hS (by omega) hk g_cl8 rfl ct8 13 (by decide) kg_X8_57 rfl rfl rfl dX8_init_106 (fun H locs hH hS => ?_)
  refine lv_aload_n (pc := 109) hx hb dX8_init_109 rfl (lv_at hl 0 rfl) ?_
  refine lv_iconst (v := 0) (pc := 110) hx hb dX8_init_110 (by decide) ?_
  refine c_puti (pc := 111) hC hin hU hA (by omega) hH hS (by omega) hk g_cl8 rfl ct8 14 (by decide) kg_X8_60 rfl rfl rfl dX8_init_111 (fun H locs hH hS => ?_)
  refine lv_aload_n (pc := 114) hx hb dX8_init_114 rfl (lv_at hl 0 rfl) ?_
  refine lv_iconst (v := 0) (pc := 115) hx hb dX8_init_115 (by decide) ?_
  refine c_puti (pc := 116) hC hin hU hA (by omega) hH hS (by omega) hk g_cl8 rfl ct8 15 (by decide) kg_X8_63 rfl rfl rfl dX8_init_116 (fun H locs hH hS => ?_)
  refine lv_aload_n (pc := 119) hx hb dX8_init_119 rfl (lv_at hl 0 rfl) ?_
  refine lv_bipush (v := 9) (pc := 120) hx hb dX8_init_120 (by decide) ?_
  refine c_puti (pc := 122) hC hin hU hA (by omega) hH hS (by omega) hk g_cl8 rfl ct8 16 (by decide) kg_X8_66 rfl rfl rfl dX8_init_122 (fun H locs hH hS => ?_)
  refine lv_aload_n (pc := 125) hx hb dX8_init_125 rfl (lv_at hl 0 rfl) ?_
  refine lv_iconst (v := 0) (pc := 126) hx hb dX8_init_126 (by decide) ?_
  refine c_puti (pc := 127) hC hin hU hA (by omega) hH hS (by omega) hk g_cl8 rfl ct8 17 (by decide) kg_X8_69 rfl rfl rfl dX8_init_127 (fun H locs hH hS => ?_)
  exact c_vret (pc := 130) hC hret hlk hH hS rfl rfl dX8_init_130
def iX6 (cs : gC) : gC := ci (cr (cz (cs) (2)) 1 0) 1 1 0
set_option maxRecDepth 100000 in
set_option maxHeartbeats 4000000 in
theorem nX6 {l : Launch} {D : va_G} {cA : Nat → ClassId} {ad : Nat → Nat} {B : Nat} (hA : cAd 0 B ad) {cs : gC} : cM l yX6_init cX6_init 1 1 1 1600 0 B D cA ad (2) cs [.ref (ad 1)] (3) (iX6 cs) := by
  refine c_met (by decide) rfl (Nat.le_of_ble_eq_true rfl) ?_
  intro p e s m args below meth c ls hC hret hlk hin hU hB hH hl
  have hS : va_S (cB B) s.heap s.heap [] := va_S.rf
  obtain ⟨hx, hb, hml, hown, hts⟩ := id hC
  refine lv_aload_n (pc := 0) hx hb dX6_init_0 rfl (lv_at hl 0 rfl) ?_
  refine c_objInit (pc := 1) hC hl.1 km_X6_3 koi koc (Nat.le_of_ble_eq_true rfl) (Nat.le_of_ble_eq_true rfl) dX6_init_1 _ ?_
  refine lv_aload_n (pc := 4) hx hb dX6_init_4 rfl (lv_at hl 0 rfl) ?_
  refine lv_sipush (v := 1600) (pc := 5) hx hb dX6_init_5 (by decide) ?_
  refine c_newa (atype := .byte) (ty := .byte) (c0 := 22) (pc := 8) hC hU hA (by decide) hH hS hB gk0_2 gn0_2 (by decide) (by decide) rfl rfl rfl (fun _ => Iff.rfl) kac_byte (by decide) rfl (by decide) (Nat.le_of_ble_eq_true rfl) (Nat.le_of_ble_eq_true rfl) dX6_init_8 (fun H hH hS => ?_)
  refine c_putr (v := 2) (pc := 10) hC hin hU hA (by decide) hH hS (by decide) gk0_1 g_cl6 rfl ct6 0 (by decide) kg_X6_11 rfl rfl rfl rfl dX6_init_10 (fun H locs hH hS => ?_)
  refine lv_aload_n (pc := 13) hx hb dX6_init_13 rfl (lv_at hl 0 rfl) ?_
  refine lv_iconst (v := 0) (pc := 14) hx hb dX6_init_14 (by decide) ?_
  refine c_puti (pc := 15) hC hin hU hA (by decide) hH hS (by decide) gk0_1 g_cl6 rfl ct6 1 (by decide) kg_X6_15 rfl rfl rfl dX6_init_15 (fun H locs hH hS => ?_)
  exact c_vret (pc := 18) hC hret hlk hH hS rfl rfl dX6_init_18
def iX7 (cs : gC) : gC := cr (cl (ci (ci (ci (ci (cs) 19 1 0) 19 2 21) 19 3 0) 19 4 0) 19 5 0) 19 0
set_option maxRecDepth 100000 in
set_option maxHeartbeats 4000000 in
theorem nX7 {l : Launch} {D : va_G} {cA : Nat → ClassId} {ad : Nat → Nat} {B : Nat} (hA : cAd 0 B ad) {cs : gC} : cM l yX7_init cX7_init 2 1 0 0 0 B D cA ad (20) cs [.ref (ad 19), .ref (ad 1)] (20) (iX7 cs) := by
  refine c_met (by decide) rfl (Nat.le_of_ble_eq_true rfl) ?_
  intro p e s m args below meth c ls hC hret hlk hin hU hB hH hl
  have hS : va_S (cB B) s.heap s.heap [] := va_S.rf
  obtain ⟨hx, hb, hml, hown, hts⟩ := id hC
  refine lv_aload_n (pc := 0) hx hb dX7_init_0 rfl (lv_at hl 0 rfl) ?_
  refine c_objInit (pc := 1) hC hl.1 km_X7_3 koi koc (Nat.le_of_ble_eq_true rfl) (Nat.le_of_ble_eq_true rfl) dX7_init_1 _ ?_
  refine lv_aload_n (pc := 4) hx hb dX7_init_4 rfl (lv_at hl 0 rfl) ?_
  refine lv_iconst (v := 0) (pc := 5) hx hb dX7_init_5 (by decide) ?_
  refine c_puti (pc := 6) hC hin hU hA (by decide) hH hS (by decide) gk0_19 g_cl7 rfl ct7 1 (by decide) kg_X7_9 rfl rfl rfl dX7_init_6 (fun H locs hH hS => ?_)
  refine lv_aload_n (pc := 9) hx hb dX7_init_9 rfl (lv_at hl 0 rfl) ?_
  refine lv_bipush (v := 21) (pc := 10) hx hb dX7_init_10 (by decide) ?_
  refine c_puti (pc := 12) hC hin hU hA (by decide) hH hS (by decide) gk0_19 g_cl7 rfl ct7 2 (by decide) kg_X7_15 rfl rfl rfl dX7_init_12 (fun H locs hH hS => ?_)
  refine lv_aload_n (pc := 15) hx hb dX7_init_15 rfl (lv_at hl 0 rfl) ?_
  refine lv_iconst (v := 0) (pc := 16) hx hb dX7_init_16 (by decide) ?_
  refine c_puti (pc := 17) hC hin hU hA (by decide) hH hS (by decide) gk0_19 g_cl7 rfl ct7 3 (by decide) kg_X7_18 rfl rfl rfl dX7_init_17 (fun H locs hH hS => ?_)
  refine lv_aload_n (pc := 20) hx hb dX7_init_20 rfl (lv_at hl 0 rfl) ?_
  refine lv_iconst (v := 0) (pc := 21) hx hb dX7_init_21 (by decide) ?_
  refine c_puti (pc := 22) hC hin hU hA (by decide) hH hS (by decide) gk0_19 g_cl7 rfl ct7 4 (by decide) kg_X7_21 rfl rfl rfl dX7_init_22 (fun H locs hH hS => ?_)
  refine lv_aload_n (pc := 25) hx hb dX7_init_25 rfl (lv_at hl 0 rfl) ?_
  refine lv_lconst (v := 0) (pc := 26) hx hb dX7_init_26 (by decide) ?_
  refine c_putl (pc := 27) hC hin hU hA (by decide) hH hS (by decide) gk0_19 g_cl7 rfl ct7 5 (by decide) kg_X7_24 rfl rfl rfl dX7_init_27 (fun H locs hH hS => ?_)
  refine lv_aload_n (pc := 30) hx hb dX7_init_30 rfl (lv_at hl 0 rfl) ?_
  refine lv_aload_n (pc := 31) hx hb dX7_init_31 rfl (lv_at hl 1 rfl) ?_
  refine c_putr (v := 1) (pc := 32) hC hin hU hA (by decide) hH hS (by decide) gk0_19 g_cl7 rfl ct7 0 (by decide) kg_X7_28 rfl rfl rfl rfl dX7_init_32 (fun H locs hH hS => ?_)
  exact c_vret (pc := 35) hC hret hlk hH hS rfl rfl dX7_init_35
def iX4 (cs : gC) : gC := cr (iX7 (cz (ci (ci (ci (ci (ci (cq (iX8 (4) (cz (cs) (4))) 3 1 (4)) 3 2 0) 3 3 0) 3 4 0) 3 5 0) 3 6 (-1)) (19))) 3 0
set_option maxRecDepth 100000 in
set_option maxHeartbeats 4000000 in
theorem nX4 {l : Launch} {D : va_G} {cA : Nat → ClassId} {ad : Nat → Nat} {B : Nat} (hA : cAd 0 B ad) {cs : gC} : cM l yX4_init cX4_init 2 3 16 481 0 B D cA ad (4) cs [.ref (ad 3), .ref (ad 1)] (20) (iX4 cs) := by
  refine c_met (by decide) rfl (Nat.le_of_ble_eq_true rfl) ?_
  intro p e s m args below meth c ls hC hret hlk hin hU hB hH hl
  have hS : va_S (cB B) s.heap s.heap [] := va_S.rf
  obtain ⟨hx, hb, hml, hown, hts⟩ := id hC
  refine lv_aload_n (pc := 0) hx hb dX4_init_0 rfl (lv_at hl 0 rfl) ?_
  refine c_objInit (pc := 1) hC hl.1 km_X4_3 koi koc (Nat.le_of_ble_eq_true rfl) (Nat.le_of_ble_eq_true rfl) dX4_init_1 _ ?_
  refine lv_aload_n (pc := 4) hx hb dX4_init_4 rfl (lv_at hl 0 rfl) ?_
  refine c_new (pc := 5) hC hU hA (by decide) hH hS hB gk0_4 g_cl8 cdf8 kcl_X4_9 kin8 kit8 (Nat.le_of_ble_eq_true rfl) (Nat.le_of_ble_eq_true rfl) dX4_init_5 (fun H hH hS => ?_)
  refine lv_dup (pc := 8) hx hb dX4_init_8 rfl ?_
  refine c_callI (pc := 9) (np := 0) (k := 4) (rest := [.ref (ad (4)), .ref (ad 3)]) hC hU hH hS hB hl.1 (nX8 (k := 4) hA gk0_4 (by decide)) kic8 kit8 kii8 rfl (by decide) (Or.inr ⟨"CradleTreaty", List.mem_of_getElem? (i := 1) rfl⟩) ⟨(Nat.le_of_ble_eq_true rfl), (Nat.le_of_ble_eq_true rfl)⟩ ⟨(Nat.le_of_ble_eq_true rfl), (Nat.le_of_ble_eq_true rfl)⟩ rfl (Nat.le_of_ble_eq_true rfl) dX4_init_9 rfl (fun H locs hH hS => ?_)
  refine c_putq (v := 4) (pc := 12) hC hin hU hA (by decide) hH hS (by decide) gk0_3 g_cl4 rfl ct4 1 (by decide) kg_X4_12 rfl rfl rfl dX4_init_12 (fun H locs hH hS => ?_)
  refine lv_aload_n (pc := 15) hx hb dX4_init_15 rfl (lv_at hl 0 rfl) ?_
  refine lv_iconst (v := 0) (pc := 16) hx hb dX4_init_16 (by decide) ?_
  refine c_puti (pc := 17) hC hin hU hA (by decide) hH hS (by decide) gk0_3 g_cl4 rfl ct4 2 (by decide) kg_X4_18 rfl rfl rfl dX4_init_17 (fun H locs hH hS => ?_)
  refine lv_aload_n (pc := 20) hx hb dX4_init_20 rfl (lv_at hl 0 rfl) ?_
  refine lv_iconst (v := 0) (pc := 21) hx hb dX4_init_21 (by decide) ?_
  refine c_puti (pc := 22) hC hin hU hA (by decide) hH hS (by decide) gk0_3 g_cl4 rfl ct4 3 (by decide) kg_X4_22 rfl rfl rfl dX4_init_22 (fun H locs hH hS => ?_)
  refine lv_aload_n (pc := 25) hx hb dX4_init_25 rfl (lv_at hl 0 rfl) ?_
  refine lv_iconst (v := 0) (pc := 26) hx hb dX4_init_26 (by decide) ?_
  refine c_puti (pc := 27) hC hin hU hA (by decide) hH hS (by decide) gk0_3 g_cl4 rfl ct4 4 (by decide) kg_X4_25 rfl rfl rfl dX4_init_27 (fun H locs hH hS => ?_)
  refine lv_aload_n (pc := 30) hx hb dX4_init_30 rfl (lv_at hl 0 rfl) ?_
  refine lv_iconst (v := 0) (pc := 31) hx hb dX4_init_31 (by decide) ?_
  refine c_puti (pc := 32) hC hin hU hA (by decide) hH hS (by decide) gk0_3 g_cl4 rfl ct4 5 (by decide) kg_X4_29 rfl rfl rfl dX4_init_32 (fun H locs hH hS => ?_)
  refine lv_aload_n (pc := 35) hx hb dX4_init_35 rfl (lv_at hl 0 rfl) ?_
  refine lv_iconst (v := (-1)) (pc := 36) hx hb dX4_init_36 (by decide) ?_
  refine c_puti (pc := 37) hC hin hU hA (by decide) hH hS (by decide) gk0_3 g_cl4 rfl ct4 6 (by decide) kg_X4_32 rfl rfl rfl dX4_init_37 (fun H locs hH hS => ?_)
  refine lv_aload_n (pc := 40) hx hb dX4_init_40 rfl (lv_at hl 0 rfl) ?_
  refine c_new (pc := 41) hC hU hA (by decide) hH hS hB gk0_19 g_cl7 cdf7 kcl_X4_35 kin7 kit7 (Nat.le_of_ble_eq_true rfl) (Nat.le_of_ble_eq_true rfl) dX4_init_41 (fun H hH hS => ?_)
  refine lv_dup (pc := 44) hx hb dX4_init_44 rfl ?_
  refine lv_aload_n (pc := 45) hx hb dX4_init_45 rfl (lv_at hl 1 rfl) ?_
  refine c_callI (pc := 46) (np := 1) (k := 19) (rest := [.ref (ad (19)), .ref (ad 3)]) hC hU hH hS hB hl.1 (nX7 hA) kic7 kit7 kii7 rfl (by decide) (Or.inl km_X4_37) ⟨(Nat.le_of_ble_eq_true rfl), (Nat.le_of_ble_eq_true rfl)⟩ ⟨(Nat.le_of_ble_eq_true rfl), (Nat.le_of_ble_eq_true rfl)⟩ rfl (Nat.le_of_ble_eq_true rfl) dX4_init_46 rfl (fun H locs hH hS => ?_)
  refine c_putr (v := 19) (pc := 49) hC hin hU hA (by decide) hH hS (by decide) gk0_3 g_cl4 rfl ct4 0 (by decide) kg_X4_40 rfl rfl rfl rfl dX4_init_49 (fun H locs hH hS => ?_)
  exact c_vret (pc := 52) hC hret hlk hH hS rfl rfl dX4_init_52
def iX9 (cs : gC) : gC := ci (ci (ci (cr (cz (cr (cz (cr (cg (cr (cg (cr (cg (cr (cz (cr (cz (cs) (151)) 150 0) (152)) 150 1) (153) 2) 150 2) (156) 2) 150 3) (159) 5) 150 4) (165)) 150 5) (166)) 150 6) 150 7 0) 150 8 0) 150 9 1
set_option maxRecDepth 100000 in
set_option maxHeartbeats 4000000 in
theorem nX9 {l : Launch} {D : va_G} {cA : Nat → ClassId} {ad : Nat → Nat} {B : Nat} (hA : cAd 0 B ad) {cs : gC} : cM l yX9_init cX9_init 1 1 16 171 0 B D cA ad (151) cs [.ref (ad 150)] (167) (iX9 cs) := by
  refine c_met (by decide) rfl (Nat.le_of_ble_eq_true rfl) ?_
  intro p e s m args below meth c ls hC hret hlk hin hU hB hH hl
  have hS : va_S (cB B) s.heap s.heap [] := va_S.rf
  obtain ⟨hx, hb, hml, hown, hts⟩ := id hC
  refine lv_aload_n (pc := 0) hx hb dX9_init_0 rfl (lv_at hl 0 rfl) ?_
  refine c_objInit (pc := 1) hC hl.1 km_X9_3 koi koc (Nat.le_of_ble_eq_true rfl) (Nat.le_of_ble_eq_true rfl) dX9_init_1 _ ?_
  refine lv_aload_n (pc := 4) hx hb dX9_init_4 rfl (lv_at hl 0 rfl) ?_
  refine lv_iconst (v := 2) (pc := 5) hx hb dX9_init_5 (by decide) ?_
  refine c_newa (atype := .int) (ty := .int) (c0 := 20) (pc := 6) hC hU hA (by decide) hH hS hB gk0_151 gn0_151 (by decide) (by decide) rfl rfl rfl (fun _ => Iff.rfl) kac_int (by decide) rfl (by decide) (Nat.le_of_ble_eq_true rfl) (Nat.le_of_ble_eq_true rfl) dX9_init_6 (fun H hH hS => ?_)
  refine c_putr (v := 151) (pc := 8) hC hin hU hA (by decide) hH hS (by decide) gk0_150 g_cl9 rfl ct9 0 (by decide) kg_X9_9 rfl rfl rfl rfl dX9_init_8 (fun H locs hH hS => ?_)
  refine lv_aload_n (pc := 11) hx hb dX9_init_11 rfl (lv_at hl 0 rfl) ?_
  refine lv_bipush (v := 16) (pc := 12) hx hb dX9_init_12 (by decide) ?_
  refine c_newa (atype := .int) (ty := .int) (c0 := 20) (pc := 14) hC hU hA (by decide) hH hS hB gk0_152 gn0_152 (by decide) (by decide) rfl rfl rfl (fun _ => Iff.rfl) kac_int (by decide) rfl (by decide) (Nat.le_of_ble_eq_true rfl) (Nat.le_of_ble_eq_true rfl) dX9_init_14 (fun H hH hS => ?_)
  refine c_putr (v := 152) (pc := 16) hC hin hU hA (by decide) hH hS (by decide) gk0_150 g_cl9 rfl ct9 1 (by decide) kg_X9_15 rfl rfl rfl rfl dX9_init_16 (fun H locs hH hS => ?_)
  refine lv_aload_n (pc := 19) hx hb dX9_init_19 rfl (lv_at hl 0 rfl) ?_
  refine lv_iconst (v := 2) (pc := 20) hx hb dX9_init_20 (by decide) ?_
  refine lv_bipush (v := 8) (pc := 21) hx hb dX9_init_21 (by decide) ?_
  refine c_mna (pc := 23) hC hU hA (by decide) hH hS gk0_153 gn0_153 (by decide +kernel) kcl_X9_18 kac_int (by decide) (by decide) rfl rfl (by decide) (by decide) (Nat.le_of_ble_eq_true rfl) (Nat.le_of_ble_eq_true rfl) dX9_init_23 (fun H hH hS => ?_)
  refine c_putr (v := 153) (pc := 27) hC hin hU hA (by decide) hH hS (by decide) gk0_150 g_cl9 rfl ct9 2 (by decide) kg_X9_20 rfl rfl rfl rfl dX9_init_27 (fun H locs hH hS => ?_)
  refine lv_aload_n (pc := 30) hx hb dX9_init_30 rfl (lv_at hl 0 rfl) ?_
  refine lv_iconst (v := 2) (pc := 31) hx hb dX9_init_31 (by decide) ?_
  refine lv_bipush (v := 16) (pc := 32) hx hb dX9_init_32 (by decide) ?_
  refine c_mna (pc := 34) hC hU hA (by decide) hH hS gk0_156 gn0_156 (by decide +kernel) kcl_X9_18 kac_int (by decide) (by decide) rfl rfl (by decide) (by decide) (Nat.le_of_ble_eq_true rfl) (Nat.le_of_ble_eq_true rfl) dX9_init_34 (fun H hH hS => ?_)
  refine c_putr (v := 156) (pc := 38) hC hin hU hA (by decide) hH hS (by decide) gk0_150 g_cl9 rfl ct9 3 (by decide) kg_X9_23 rfl rfl rfl rfl dX9_init_38 (fun H locs hH hS => ?_)
  refine lv_aload_n (pc := 41) hx hb dX9_init_41 rfl (lv_at hl 0 rfl) ?_
  refine lv_iconst (v := 5) (pc := 42) hx hb dX9_init_42 (by decide) ?_
  refine lv_bipush (v := 16) (pc := 43) hx hb dX9_init_43 (by decide) ?_
  refine c_mna (pc := 45) hC hU hA (by decide) hH hS gk0_159 gn0_159 (by decide +kernel) kcl_X9_18 kac_int (by decide) (by decide) rfl rfl (by decide) (by decide) (Nat.le_of_ble_eq_true rfl) (Nat.le_of_ble_eq_true rfl) dX9_init_45 (fun H hH hS => ?_)
  refine c_putr (v := 159) (pc := 49) hC hin hU hA (by decide) hH hS (by decide) gk0_150 g_cl9 rfl ct9 4 (by decide) kg_X9_26 rfl rfl rfl rfl dX9_init_49 (fun H locs hH hS => ?_)
  refine lv_aload_n (pc := 52) hx hb dX9_init_52 rfl (lv_at hl 0 rfl) ?_
  refine lv_bipush (v := 8) (pc := 53) hx hb dX9_init_53 (by decide) ?_
  refine c_newa (atype := .int) (ty := .int) (c0 := 20) (pc := 55) hC hU hA (by decide) hH hS hB gk0_165 gn0_165 (by decide) (by decide) rfl rfl rfl (fun _ => Iff.rfl) kac_int (by decide) rfl (by decide) (Nat.le_of_ble_eq_true rfl) (Nat.le_of_ble_eq_true rfl) dX9_init_55 (fun H hH hS => ?_)
  refine c_putr (v := 165) (pc := 57) hC hin hU hA (by decide) hH hS (by decide) gk0_150 g_cl9 rfl ct9 5 (by decide) kg_X9_29 rfl rfl rfl rfl dX9_init_57 (fun H locs hH hS => ?_)
  refine lv_aload_n (pc := 60) hx hb dX9_init_60 rfl (lv_at hl 0 rfl) ?_
  refine lv_bipush (v := 8) (pc := 61) hx hb dX9_init_61 (by decide) ?_
  refine c_newa (atype := .int) (ty := .int) (c0 := 20) (pc := 63) hC hU hA (by decide) hH hS hB gk0_166 gn0_166 (by decide) (by decide) rfl rfl rfl (fun _ => Iff.rfl) kac_int (by decide) rfl (by decide) (Nat.le_of_ble_eq_true rfl) (Nat.le_of_ble_eq_true rfl) dX9_init_63 (fun H hH hS => ?_)
  refine c_putr (v := 166) (pc := 65) hC hin hU hA (by decide) hH hS (by decide) gk0_150 g_cl9 rfl ct9 6 (by decide) kg_X9_32 rfl rfl rfl rfl dX9_init_65 (fun H locs hH hS => ?_)
  refine lv_aload_n (pc := 68) hx hb dX9_init_68 rfl (lv_at hl 0 rfl) ?_
  refine lv_iconst (v := 0) (pc := 69) hx hb dX9_init_69 (by decide) ?_
  refine c_puti (pc := 70) hC hin hU hA (by decide) hH hS (by decide) gk0_150 g_cl9 rfl ct9 7 (by decide) kg_X9_35 rfl rfl rfl dX9_init_70 (fun H locs hH hS => ?_)
  refine lv_aload_n (pc := 73) hx hb dX9_init_73 rfl (lv_at hl 0 rfl) ?_
  refine lv_iconst (v := 0) (pc := 74) hx hb dX9_init_74 (by decide) ?_
  refine c_puti (pc := 75) hC hin hU hA (by decide) hH hS (by decide) gk0_150 g_cl9 rfl ct9 8 (by decide) kg_X9_39 rfl rfl rfl dX9_init_75 (fun H locs hH hS => ?_)
  refine lv_aload_n (pc := 78) hx hb dX9_init_78 rfl (lv_at hl 0 rfl) ?_
  refine lv_iconst (v := 1) (pc := 79) hx hb dX9_init_79 (by decide) ?_
  refine c_puti (pc := 80) hC hin hU hA (by decide) hH hS (by decide) gk0_150 g_cl9 rfl ct9 9 (by decide) kg_X9_42 rfl rfl rfl dX9_init_80 (fun H locs hH hS => ?_)
  exact c_vret (pc := 83) hC hret hlk hH hS rfl rfl dX9_init_83
def iX3 (cs : gC) : gC := cr (cz (cs) (168)) 167 0
set_option maxRecDepth 100000 in
set_option maxHeartbeats 4000000 in
theorem nX3 {l : Launch} {D : va_G} {cA : Nat → ClassId} {ad : Nat → Nat} {B : Nat} (hA : cAd 0 B ad) {cs : gC} : cM l yX3_init cX3_init 1 1 1 5 0 B D cA ad (168) cs [.ref (ad 167)] (169) (iX3 cs) := by
  refine c_met (by decide) rfl (Nat.le_of_ble_eq_true rfl) ?_
  intro p e s m args below meth c ls hC hret hlk hin hU hB hH hl
  have hS : va_S (cB B) s.heap s.heap [] := va_S.rf
  obtain ⟨hx, hb, hml, hown, hts⟩ := id hC
  refine lv_aload_n (pc := 0) hx hb dX3_init_0 rfl (lv_at hl 0 rfl) ?_
  refine c_objInit (pc := 1) hC hl.1 km_X3_3 koi koc (Nat.le_of_ble_eq_true rfl) (Nat.le_of_ble_eq_true rfl) dX3_init_1 _ ?_
  refine lv_aload_n (pc := 4) hx hb dX3_init_4 rfl (lv_at hl 0 rfl) ?_
  refine lv_iconst (v := 5) (pc := 5) hx hb dX3_init_5 (by decide) ?_
  refine c_newa (atype := .int) (ty := .int) (c0 := 20) (pc := 6) hC hU hA (by decide) hH hS hB gk0_168 gn0_168 (by decide) (by decide) rfl rfl rfl (fun _ => Iff.rfl) kac_int (by decide) rfl (by decide) (Nat.le_of_ble_eq_true rfl) (Nat.le_of_ble_eq_true rfl) dX3_init_6 (fun H hH hS => ?_)
  refine c_putr (v := 168) (pc := 8) hC hin hU hA (by decide) hH hS (by decide) gk0_167 g_cl3 rfl ct3 0 (by decide) kg_X3_9 rfl rfl rfl rfl dX3_init_8 (fun H locs hH hS => ?_)
  exact c_vret (pc := 11) hC hret hlk hH hS rfl rfl dX3_init_11
def iX2 (cs : gC) : gC := ci (ci (cr (cg (cr (cg (cr (cz (cr (cz (cr (cz (cr (cz (cr (cz (cr (cz (cr (cz (cr (cz (cs) (170)) 169 0) (171)) 169 1) (172)) 169 2) (173)) 169 3) (174)) 169 4) (175)) 169 5) (176)) 169 6) (177)) 169 7) (178) 7) 169 8) (186) 7) 169 9) 169 10 0) 169 11 0
set_option maxRecDepth 100000 in
set_option maxHeartbeats 4000000 in
theorem nX2 {l : Launch} {D : va_G} {cA : Nat → ClassId} {ad : Nat → Nat} {B : Nat} (hA : cAd 0 B ad) {cs : gC} : cM l yX2_init cX2_init 1 1 24 320 0 B D cA ad (170) cs [.ref (ad 169)] (194) (iX2 cs) := by
  refine c_met (by decide) rfl (Nat.le_of_ble_eq_true rfl) ?_
  intro p e s m args below meth c ls hC hret hlk hin hU hB hH hl
  have hS : va_S (cB B) s.heap s.heap [] := va_S.rf
  obtain ⟨hx, hb, hml, hown, hts⟩ := id hC
  refine lv_aload_n (pc := 0) hx hb dX2_init_0 rfl (lv_at hl 0 rfl) ?_
  refine c_objInit (pc := 1) hC hl.1 km_X2_3 koi koc (Nat.le_of_ble_eq_true rfl) (Nat.le_of_ble_eq_true rfl) dX2_init_1 _ ?_
  refine lv_aload_n (pc := 4) hx hb dX2_init_4 rfl (lv_at hl 0 rfl) ?_
  refine lv_bipush (v := 30) (pc := 5) hx hb dX2_init_5 (by decide) ?_
  refine c_newa (atype := .boolean) (ty := .boolean) (c0 := 21) (pc := 7) hC hU hA (by decide) hH hS hB gk0_170 gn0_170 (by decide) (by decide) rfl rfl rfl (fun _ => Iff.rfl) kac_boolean (by decide) rfl (by decide) (Nat.le_of_ble_eq_true rfl) (Nat.le_of_ble_eq_true rfl) dX2_init_7 (fun H hH hS => ?_)
  refine c_putr (v := 170) (pc := 9) hC hin hU hA (by decide) hH hS (by decide) gk0_169 g_cl2 rfl ct2 0 (by decide) kg_X2_11 rfl rfl rfl rfl dX2_init_9 (fun H locs hH hS => ?_)
  refine lv_aload_n (pc := 12) hx hb dX2_init_12 rfl (lv_at hl 0 rfl) ?_
  refine lv_bipush (v := 30) (pc := 13) hx hb dX2_init_13 (by decide) ?_
  refine c_newa (atype := .boolean) (ty := .boolean) (c0 := 21) (pc := 15) hC hU hA (by decide) hH hS hB gk0_171 gn0_171 (by decide) (by decide) rfl rfl rfl (fun _ => Iff.rfl) kac_boolean (by decide) rfl (by decide) (Nat.le_of_ble_eq_true rfl) (Nat.le_of_ble_eq_true rfl) dX2_init_15 (fun H hH hS => ?_)
  refine c_putr (v := 171) (pc := 17) hC hin hU hA (by decide) hH hS (by decide) gk0_169 g_cl2 rfl ct2 1 (by decide) kg_X2_15 rfl rfl rfl rfl dX2_init_17 (fun H locs hH hS => ?_)
  refine lv_aload_n (pc := 20) hx hb dX2_init_20 rfl (lv_at hl 0 rfl) ?_
  refine lv_bipush (v := 30) (pc := 21) hx hb dX2_init_21 (by decide) ?_
  refine c_newa (atype := .int) (ty := .int) (c0 := 20) (pc := 23) hC hU hA (by decide) hH hS hB gk0_172 gn0_172 (by decide) (by decide) rfl rfl rfl (fun _ => Iff.rfl) kac_int (by decide) rfl (by decide) (Nat.le_of_ble_eq_true rfl) (Nat.le_of_ble_eq_true rfl) dX2_init_23 (fun H hH hS => ?_)
  refine c_putr (v := 172) (pc := 25) hC hin hU hA (by decide) hH hS (by decide) gk0_169 g_cl2 rfl ct2 2 (by decide) kg_X2_18 rfl rfl rfl rfl dX2_init_25 (fun H locs hH hS => ?_)
  refine lv_aload_n (pc := 28) hx hb dX2_init_28 rfl (lv_at hl 0 rfl) ?_
  refine lv_bipush (v := 30) (pc := 29) hx hb dX2_init_29 (by decide) ?_
  refine c_newa (atype := .int) (ty := .int) (c0 := 20) (pc := 31) hC hU hA (by decide) hH hS hB gk0_173 gn0_173 (by decide) (by decide) rfl rfl rfl (fun _ => Iff.rfl) kac_int (by decide) rfl (by decide) (Nat.le_of_ble_eq_true rfl) (Nat.le_of_ble_eq_true rfl) dX2_init_31 (fun H hH hS => ?_)
  refine c_putr (v := 173) (pc := 33) hC hin hU hA (by decide) hH hS (by decide) gk0_169 g_cl2 rfl ct2 3 (by decide) kg_X2_22 rfl rfl rfl rfl dX2_init_33 (fun H locs hH hS => ?_)
  refine lv_aload_n (pc := 36) hx hb dX2_init_36 rfl (lv_at hl 0 rfl) ?_
  refine lv_bipush (v := 30) (pc := 37) hx hb dX2_init_37 (by decide) ?_
  refine c_newa (atype := .int) (ty := .int) (c0 := 20) (pc := 39) hC hU hA (by decide) hH hS hB gk0_174 gn0_174 (by decide) (by decide) rfl rfl rfl (fun _ => Iff.rfl) kac_int (by decide) rfl (by decide) (Nat.le_of_ble_eq_true rfl) (Nat.le_of_ble_eq_true rfl) dX2_init_39 (fun H hH hS => ?_)
  refine c_putr (v := 174) (pc := 41) hC hin hU hA (by decide) hH hS (by decide) gk0_169 g_cl2 rfl ct2 4 (by decide) kg_X2_25 rfl rfl rfl rfl dX2_init_41 (fun H locs hH hS => ?_)
  refine lv_aload_n (pc := 44) hx hb dX2_init_44 rfl (lv_at hl 0 rfl) ?_
  refine lv_bipush (v := 30) (pc := 45) hx hb dX2_init_45 (by decide) ?_
  refine c_newa (atype := .int) (ty := .int) (c0 := 20) (pc := 47) hC hU hA (by decide) hH hS hB gk0_175 gn0_175 (by decide) (by decide) rfl rfl rfl (fun _ => Iff.rfl) kac_int (by decide) rfl (by decide) (Nat.le_of_ble_eq_true rfl) (Nat.le_of_ble_eq_true rfl) dX2_init_47 (fun H hH hS => ?_)
  refine c_putr (v := 175) (pc := 49) hC hin hU hA (by decide) hH hS (by decide) gk0_169 g_cl2 rfl ct2 5 (by decide) kg_X2_28 rfl rfl rfl rfl dX2_init_49 (fun H locs hH hS => ?_)
  refine lv_aload_n (pc := 52) hx hb dX2_init_52 rfl (lv_at hl 0 rfl) ?_
  refine lv_bipush (v := 7) (pc := 53) hx hb dX2_init_53 (by decide) ?_
  refine c_newa (atype := .int) (ty := .int) (c0 := 20) (pc := 55) hC hU hA (by decide) hH hS hB gk0_176 gn0_176 (by decide) (by decide) rfl rfl rfl (fun _ => Iff.rfl) kac_int (by decide) rfl (by decide) (Nat.le_of_ble_eq_true rfl) (Nat.le_of_ble_eq_true rfl) dX2_init_55 (fun H hH hS => ?_)
  refine c_putr (v := 176) (pc := 57) hC hin hU hA (by decide) hH hS (by decide) gk0_169 g_cl2 rfl ct2 6 (by decide) kg_X2_31 rfl rfl rfl rfl dX2_init_57 (fun H locs hH hS => ?_)
  refine lv_aload_n (pc := 60) hx hb dX2_init_60 rfl (lv_at hl 0 rfl) ?_
  refine lv_bipush (v := 7) (pc := 61) hx hb dX2_init_61 (by decide) ?_
  refine c_newa (atype := .int) (ty := .int) (c0 := 20) (pc := 63) hC hU hA (by decide) hH hS hB gk0_177 gn0_177 (by decide) (by decide) rfl rfl rfl (fun _ => Iff.rfl) kac_int (by decide) rfl (by decide) (Nat.le_of_ble_eq_true rfl) (Nat.le_of_ble_eq_true rfl) dX2_init_63 (fun H hH hS => ?_)
  refine c_putr (v := 177) (pc := 65) hC hin hU hA (by decide) hH hS (by decide) gk0_169 g_cl2 rfl ct2 7 (by decide) kg_X2_34 rfl rfl rfl rfl dX2_init_65 (fun H locs hH hS => ?_)
  refine lv_aload_n (pc := 68) hx hb dX2_init_68 rfl (lv_at hl 0 rfl) ?_
  refine lv_bipush (v := 7) (pc := 69) hx hb dX2_init_69 (by decide) ?_
  refine lv_bipush (v := 8) (pc := 71) hx hb dX2_init_71 (by decide) ?_
  refine c_mna (pc := 73) hC hU hA (by decide) hH hS gk0_178 gn0_178 (by decide +kernel) kcl_X2_37 kac_int (by decide) (by decide) rfl rfl (by decide) (by decide) (Nat.le_of_ble_eq_true rfl) (Nat.le_of_ble_eq_true rfl) dX2_init_73 (fun H hH hS => ?_)
  refine c_putr (v := 178) (pc := 77) hC hin hU hA (by decide) hH hS (by decide) gk0_169 g_cl2 rfl ct2 8 (by decide) kg_X2_39 rfl rfl rfl rfl dX2_init_77 (fun H locs hH hS => ?_)
  refine lv_aload_n (pc := 80) hx hb dX2_init_80 rfl (lv_at hl 0 rfl) ?_
  refine lv_bipush (v := 7) (pc := 81) hx hb dX2_init_81 (by decide) ?_
  refine lv_bipush (v := 8) (pc := 83) hx hb dX2_init_83 (by decide) ?_
  refine c_mna (pc := 85) hC hU hA (by decide) hH hS gk0_186 gn0_186 (by decide +kernel) kcl_X2_37 kac_int (by decide) (by decide) rfl rfl (by decide) (by decide) (Nat.le_of_ble_eq_true rfl) (Nat.le_of_ble_eq_true rfl) dX2_init_85 (fun H hH hS => ?_)
  refine c_putr (v := 186) (pc := 89) hC hin hU hA (by decide) hH hS (by decide) gk0_169 g_cl2 rfl ct2 9 (by decide) kg_X2_42 rfl rfl rfl rfl dX2_init_89 (fun H locs hH hS => ?_)
  refine lv_aload_n (pc := 92) hx hb dX2_init_92 rfl (lv_at hl 0 rfl) ?_
  refine lv_iconst (v := 0) (pc := 93) hx hb dX2_init_93 (by decide) ?_
  refine c_puti (pc := 94) hC hin hU hA (by decide) hH hS (by decide) gk0_169 g_cl2 rfl ct2 10 (by decide) kg_X2_45 rfl rfl rfl dX2_init_94 (fun H locs hH hS => ?_)
  refine lv_aload_n (pc := 97) hx hb dX2_init_97 rfl (lv_at hl 0 rfl) ?_
  refine lv_iconst (v := 0) (pc := 98) hx hb dX2_init_98 (by decide) ?_
  refine c_puti (pc := 99) hC hin hU hA (by decide) hH hS (by decide) gk0_169 g_cl2 rfl ct2 11 (by decide) kg_X2_49 rfl rfl rfl dX2_init_99 (fun H locs hH hS => ?_)
  exact c_vret (pc := 102) hC hret hlk hH hS rfl rfl dX2_init_102
def iX11 (cs : gC) : gC := cr (cz (cr (cz (cr (cz (cr (cz (cr (cz (cr (cz (cr (cz (cr (cz (cr (cz (cr (cz (cr (cz (cr (cz (cr (cz (cr (cz (cr (cz (cr (cz (cr (cz (cr (cz (cr (ci (ci (ci (ci (ci (ci (ci (ci (ci (ci (ci (ci (ci (ci (ci (ci (ci (ci (cz (ci (cr (cz (cr (cz (cr (cz (cr (cz (cr (cz (cr (cz (cr (cz (cr (cz (cr (cz (cr (cz (cr (cz (cr (cz (cr (cz (cr (cz (cr (cz (cr (cz (cr (cz (cr (cz (cr (cz (cr (cz (cr (cz (cr (cz (cr (cz (cr (cz (cr (cz (cr (cz (ci (cr (cz (cs) (1)) 0 0) 0 3 (-1)) (2)) 0 10) (3)) 0 11) (4)) 0 12) (5)) 0 13) (6)) 0 14) (7)) 0 15) (8)) 0 16) (9)) 0 24) (10)) 0 25) (11)) 0 26) (12)) 0 27) (13)) 0 28) (14)) 0 29) (15)) 0 30) (16)) 0 31) (17)) 0 32) (18)) 0 33) (19)) 0 34) (20)) 0 35) (21)) 0 36) (22)) 0 37) (23)) 0 38) (24)) 0 39) (25)) 0 40) (26)) 0 41) (27)) 0 42) 0 51 9) (28)) 28 0 (-1)) 28 1 (-1)) 28 2 0) 28 3 0) 28 4 0) 28 5 0) 28 6 0) 28 7 0) 28 8 0) 28 9 0) 28 10 0) 28 11 0) 28 12 0) 28 13 0) 28 14 0) 28 15 0) 28 16 0) 28 17 0) 0 55) (29)) 0 56) (30)) 0 57) (31)) 0 60) (32)) 0 61) (33)) 0 63) (34)) 0 64) (35)) 0 65) (36)) 0 66) (37)) 0 67) (38)) 0 68) (39)) 0 69) (40)) 0 70) (41)) 0 71) (42)) 0 72) (43)) 0 75) (44)) 0 76) (45)) 0 77) (46)) 0 78
set_option maxRecDepth 100000 in
set_option maxHeartbeats 4000000 in
theorem nX11 {l : Launch} {D : va_G} {cA : Nat → ClassId} {ad : Nat → Nat} {B : Nat} (hA : cAd 1 B ad) {cs : gC} : cM l yX11_init cX11_init 1 1 46 4605 1 B D cA ad (1) cs [.ref (ad 0)] (47) (iX11 cs) := by
  refine c_met (by decide) rfl (Nat.le_of_ble_eq_true rfl) ?_
  intro p e s m args below meth c ls hC hret hlk hin hU hB hH hl
  have hS : va_S (cB B) s.heap s.heap [] := va_S.rf
  obtain ⟨hx, hb, hml, hown, hts⟩ := id hC
  refine lv_aload_n (pc := 0) hx hb dX11_init_0 rfl (lv_at hl 0 rfl) ?_
  refine c_objInit (pc := 1) hC hl.1 km_X11_1 koi koc (Nat.le_of_ble_eq_true rfl) (Nat.le_of_ble_eq_true rfl) dX11_init_1 _ ?_
  refine lv_aload_n (pc := 4) hx hb dX11_init_4 rfl (lv_at hl 0 rfl) ?_
  refine lv_sipush (v := 1600) (pc := 5) hx hb dX11_init_5 (by decide) ?_
  refine c_newa (atype := .int) (ty := .int) (c0 := 20) (pc := 8) hC hU hA (by decide) hH hS hB gk1_1 gn1_1 (by decide) (by decide) rfl rfl rfl (fun _ => Iff.rfl) kac_int (by decide) rfl (by decide) (Nat.le_of_ble_eq_true rfl) (Nat.le_of_ble_eq_true rfl) dX11_init_8 (fun H hH hS => ?_)
  refine c_putr (v := 1) (pc := 10) hC hin hU hA (by decide) hH hS (by decide) gk1_0 g_cl11 rfl ct11 0 (by decide) kg_X11_7 rfl rfl rfl rfl dX11_init_10 (fun H locs hH hS => ?_)
  refine lv_aload_n (pc := 13) hx hb dX11_init_13 rfl (lv_at hl 0 rfl) ?_
  refine lv_iconst (v := (-1)) (pc := 14) hx hb dX11_init_14 (by decide) ?_
  refine c_puti (pc := 15) hC hin hU hA (by decide) hH hS (by decide) gk1_0 g_cl11 rfl ct11 3 (by decide) kg_X11_13 rfl rfl rfl dX11_init_15 (fun H locs hH hS => ?_)
  refine lv_aload_n (pc := 18) hx hb dX11_init_18 rfl (lv_at hl 0 rfl) ?_
  refine lv_bipush (v := 13) (pc := 19) hx hb dX11_init_19 (by decide) ?_
  refine c_newl (pc := 21) hC hU hA (by decide) hH hS hB gk1_2 gn1_2 kac_long (by decide) rfl (by decide) (Nat.le_of_ble_eq_true rfl) (Nat.le_of_ble_eq_true rfl) dX11_init_21 (fun H hH hS => ?_)
  refine c_putr (v := 2) (pc := 23) hC hin hU hA (by decide) hH hS (by decide) gk1_0 g_cl11 rfl ct11 10 (by decide) kg_X11_17 rfl rfl rfl rfl dX11_init_23 (fun H locs hH hS => ?_)
  refine lv_aload_n (pc := 26) hx hb dX11_init_26 rfl (lv_at hl 0 rfl) ?_
  refine lv_sipush (v := 320) (pc := 27) hx hb dX11_init_27 (by decide) ?_
  refine c_newa (atype := .int) (ty := .int) (c0 := 20) (pc := 30) hC hU hA (by decide) hH hS hB gk1_3 gn1_3 (by decide) (by decide) rfl rfl rfl (fun _ => Iff.rfl) kac_int (by decide) rfl (by decide) (Nat.le_of_ble_eq_true rfl) (Nat.le_of_ble_eq_true rfl) dX11_init_30 (fun H hH hS => ?_)
  refine c_putr (v := 3) (pc := 32) hC hin hU hA (by decide) hH hS (by decide) gk1_0 g_cl11 rfl ct11 11 (by decide) kg_X11_21 rfl rfl rfl rfl dX11_init_32 (fun H locs hH hS => ?_)
  refine lv_aload_n (pc := 35) hx hb dX11_init_35 rfl (lv_at hl 0 rfl) ?_
  refine lv_sipush (v := 320) (pc := 36) hx hb dX11_init_36 (by decide) ?_
  refine c_newa (atype := .int) (ty := .int) (c0 := 20) (pc := 39) hC hU hA (by decide) hH hS hB gk1_4 gn1_4 (by decide) (by decide) rfl rfl rfl (fun _ => Iff.rfl) kac_int (by decide) rfl (by decide) (Nat.le_of_ble_eq_true rfl) (Nat.le_of_ble_eq_true rfl) dX11_init_39 (fun H hH hS => ?_)
  refine c_putr (v := 4) (pc := 41) hC hin hU hA (by decide) hH hS (by decide) gk1_0 g_cl11 rfl ct11 12 (by decide) kg_X11_24 rfl rfl rfl rfl dX11_init_41 (fun H locs hH hS => ?_)
  refine lv_aload_n (pc := 44) hx hb dX11_init_44 rfl (lv_at hl 0 rfl) ?_
  refine lv_sipush (v := 320) (pc := 45) hx hb dX11_init_45 (by decide) ?_
  refine c_newa (atype := .int) (ty := .int) (c0 := 20) (pc := 48) hC hU hA (by decide) hH hS hB gk1_5 gn1_5 (by decide) (by decide) rfl rfl rfl (fun _ => Iff.rfl) kac_int (by decide) rfl (by decide) (Nat.le_of_ble_eq_true rfl) (Nat.le_of_ble_eq_true rfl) dX11_init_48 (fun H hH hS => ?_)
  refine c_putr (v := 5) (pc := 50) hC hin hU hA (by decide) hH hS (by decide) gk1_0 g_cl11 rfl ct11 13 (by decide) kg_X11_27 rfl rfl rfl rfl dX11_init_50 (fun H locs hH hS => ?_)
  refine lv_aload_n (pc := 53) hx hb dX11_init_53 rfl (lv_at hl 0 rfl) ?_
  refine lv_sipush (v := 320) (pc := 54) hx hb dX11_init_54 (by decide) ?_
  refine c_newa (atype := .int) (ty := .int) (c0 := 20) (pc := 57) hC hU hA (by decide) hH hS hB gk1_6 gn1_6 (by decide) (by decide) rfl rfl rfl (fun _ => Iff.rfl) kac_int (by decide) rfl (by decide) (Nat.le_of_ble_eq_true rfl) (Nat.le_of_ble_eq_true rfl) dX11_init_57 (fun H hH hS => ?_)
  refine c_putr (v := 6) (pc := 59) hC hin hU hA (by decide) hH hS (by decide) gk1_0 g_cl11 rfl ct11 14 (by decide) kg_X11_30 rfl rfl rfl rfl dX11_init_59 (fun H locs hH hS => ?_)
  refine lv_aload_n (pc := 62) hx hb dX11_init_62 rfl (lv_at hl 0 rfl) ?_
  refine lv_sipush (v := 160) (pc := 63) hx hb dX11_init_63 (by decide) ?_
  refine c_newa (atype := .int) (ty := .int) (c0 := 20) (pc := 66) hC hU hA (by decide) hH hS hB gk1_7 gn1_7 (by decide) (by decide) rfl rfl rfl (fun _ => Iff.rfl) kac_int (by decide) rfl (by decide) (Nat.le_of_ble_eq_true rfl) (Nat.le_of_ble_eq_true rfl) dX11_init_66 (fun H hH hS => ?_)
  refine c_putr (v := 7) (pc := 68) hC hin hU hA (by decide) hH hS (by decide) gk1_0 g_cl11 rfl ct11 15 (by decide) kg_X11_33 rfl rfl rfl rfl dX11_init_68 (fun H locs hH hS => ?_)
  refine lv_aload_n (pc := 71) hx hb dX11_init_71 rfl (lv_at hl 0 rfl) ?_
  refine lv_bipush (v := 64) (pc := 72) hx hb dX11_init_72 (by decide) ?_
  refine c_newa (atype := .int) (ty := .int) (c0 := 20) (pc := 74) hC hU hA (by decide) hH hS hB gk1_8 gn1_8 (by decide) (by decide) rfl rfl rfl (fun _ => Iff.rfl) kac_int (by decide) rfl (by decide) (Nat.le_of_ble_eq_true rfl) (Nat.le_of_ble_eq_true rfl) dX11_init_74 (fun H hH hS => ?_)
  refine c_putr (v := 8) (pc := 76) hC hin hU hA (by decide) hH hS (by decide) gk1_0 g_cl11 rfl ct11 16 (by decide) kg_X11_36 rfl rfl rfl rfl dX11_init_76 (fun H locs hH hS => ?_)
  refine lv_aload_n (pc := 79) hx hb dX11_init_79 rfl (lv_at hl 0 rfl) ?_
  refine lv_iconst (v := 5) (pc := 80) hx hb dX11_init_80 (by decide) ?_
  refine c_newa (atype := .int) (ty := .int) (c0 := 20) (pc := 81) hC hU hA (by decide) hH hS hB gk1_9 gn1_9 (by decide) (by decide) rfl rfl rfl (fun _ => Iff.rfl) kac_int (by decide) rfl (by decide) (Nat.le_of_ble_eq_true rfl) (Nat.le_of_ble_eq_true rfl) dX11_init_81 (fun H hH hS => ?_)
  refine c_putr (v := 9) (pc := 83) hC hin hU hA (by decide) hH hS (by decide) gk1_0 g_cl11 rfl ct11 24 (by decide) kg_X11_39 rfl rfl rfl rfl dX11_init_83 (fun H locs hH hS => ?_)
  refine lv_aload_n (pc := 86) hx hb dX11_init_86 rfl (lv_at hl 0 rfl) ?_
  refine lv_iconst (v := 5) (pc := 87) hx hb dX11_init_87 (by decide) ?_
  refine c_newa (atype := .int) (ty := .int) (c0 := 20) (pc := 88) hC hU hA (by decide) hH hS hB gk1_10 gn1_10 (by decide) (by decide) rfl rfl rfl (fun _ => Iff.rfl) kac_int (by decide) rfl (by decide) (Nat.le_of_ble_eq_true rfl) (Nat.le_of_ble_eq_true rfl) dX11_init_88 (fun H hH hS => ?_)
  refine c_putr (v := 10) (pc := 90) hC hin hU hA (by decide) hH hS (by decide) gk1_0 g_cl11 rfl ct11 25 (by decide) kg_X11_42 rfl rfl rfl rfl dX11_init_90 (fun H locs hH hS => ?_)
  refine lv_aload_n (pc := 93) hx hb dX11_init_93 rfl (lv_at hl 0 rfl) ?_
  refine lv_iconst (v := 5) (pc := 94) hx hb dX11_init_94 (by decide) ?_
  refine c_newa (atype := .int) (ty := .int) (c0 := 20) (pc := 95) hC hU hA (by decide) hH hS hB gk1_11 gn1_11 (by decide) (by decide) rfl rfl rfl (fun _ => Iff.rfl) kac_int (by decide) rfl (by decide) (Nat.le_of_ble_eq_true rfl) (Nat.le_of_ble_eq_true rfl) dX11_init_95 (fun H hH hS => ?_)
  refine c_putr (v := 11) (pc := 97) hC hin hU hA (by decide) hH hS (by decide) gk1_0 g_cl11 rfl ct11 26 (by decide) kg_X11_45 rfl rfl rfl rfl dX11_init_97 (fun H locs hH hS => ?_)
  refine lv_aload_n (pc := 100) hx hb dX11_init_100 rfl (lv_at hl 0 rfl) ?_
  refine lv_iconst (v := 5) (pc := 101) hx hb dX11_init_101 (by decide) ?_
  refine c_newa (atype := .int) (ty := .int) (c0 := 20) (pc := 102) hC hU hA (by decide) hH hS hB gk1_12 gn1_12 (by decide) (by decide) rfl rfl rfl (fun _ => Iff.rfl) kac_int (by decide) rfl (by decide) (Nat.le_of_ble_eq_true rfl) (Nat.le_of_ble_eq_true rfl) dX11_init_102 (fun H hH hS => ?_)
  refine c_putr (v := 12) (pc := 104) hC hin hU hA (by decide) hH hS (by decide) gk1_0 g_cl11 rfl ct11 27 (by decide) kg_X11_48 rfl rfl rfl rfl dX11_init_104 (fun H locs hH hS => ?_)
  refine lv_aload_n (pc := 107) hx hb dX11_init_107 rfl (lv_at hl 0 rfl) ?_
  refine lv_iconst (v := 5) (pc := 108) hx hb dX11_init_108 (by decide) ?_
  refine c_newa (atype := .int) (ty := .int) (c0 := 20) (pc := 109) hC hU hA (by decide) hH hS hB gk1_13 gn1_13 (by decide) (by decide) rfl rfl rfl (fun _ => Iff.rfl) kac_int (by decide) rfl (by decide) (Nat.le_of_ble_eq_true rfl) (Nat.le_of_ble_eq_true rfl) dX11_init_109 (fun H hH hS => ?_)
  refine c_putr (v := 13) (pc := 111) hC hin hU hA (by decide) hH hS (by decide) gk1_0 g_cl11 rfl ct11 28 (by decide) kg_X11_51 rfl rfl rfl rfl dX11_init_111 (fun H locs hH hS => ?_)
  refine lv_aload_n (pc := 114) hx hb dX11_init_114 rfl (lv_at hl 0 rfl) ?_
  refine lv_bipush (v := 40) (pc := 115) hx hb dX11_init_115 (by decide) ?_
  refine c_newa (atype := .int) (ty := .int) (c0 := 20) (pc := 117) hC hU hA (by decide) hH hS hB gk1_14 gn1_14 (by decide) (by decide) rfl rfl rfl (fun _ => Iff.rfl) kac_int (by decide) rfl (by decide) (Nat.le_of_ble_eq_true rfl) (Nat.le_of_ble_eq_true rfl) dX11_init_117 (fun H hH hS => ?_)
  refine c_putr (v := 14) (pc := 119) hC hin hU hA (by decide) hH hS (by decide) gk1_0 g_cl11 rfl ct11 29 (by decide) kg_X11_54 rfl rfl rfl rfl dX11_init_119 (fun H locs hH hS => ?_)
  refine lv_aload_n (pc := 122) hx hb dX11_init_122 rfl (lv_at hl 0 rfl) ?_
  refine lv_bipush (v := 40) (pc := 123) hx hb dX11_init_123 (by decide) ?_
  refine c_newa (atype := .int) (ty := .int) (c0 := 20) (pc := 125) hC hU hA (by decide) hH hS hB gk1_15 gn1_15 (by decide) (by decide) rfl rfl rfl (fun _ => Iff.rfl) kac_int (by decide) rfl (by decide) (Nat.le_of_ble_eq_true rfl) (Nat.le_of_ble_eq_true rfl) dX11_init_125 (fun H hH hS => ?_)
  refine c_putr (v := 15) (pc := 127) hC hin hU hA (by decide) hH hS (by decide) gk1_0 g_cl11 rfl ct11 30 (by decide) kg_X11_57 rfl rfl rfl rfl dX11_init_127 (fun H locs hH hS => ?_)
  refine lv_aload_n (pc := 130) hx hb dX11_init_130 rfl (lv_at hl 0 rfl) ?_
  refine lv_bipush (v := 16) (pc := 131) hx hb dX11_init_131 (by decide) ?_
  refine c_newa (atype := .int) (ty := .int) (c0 := 20) (pc := 133) hC hU hA (by decide) hH hS hB gk1_16 gn1_16 (by decide) (by decide) rfl rfl rfl (fun _ => Iff.rfl) kac_int (by decide) rfl (by decide) (Nat.le_of_ble_eq_true rfl) (Nat.le_of_ble_eq_true rfl) dX11_init_133 (fun H hH hS => ?_)
  refine c_putr (v := 16) (pc := 135) hC hin hU hA (by decide) hH hS (by decide) gk1_0 g_cl11 rfl ct11 31 (by decide) kg_X11_60 rfl rfl rfl rfl dX11_init_135 (fun H locs hH hS => ?_)
  refine lv_aload_n (pc := 138) hx hb dX11_init_138 rfl (lv_at hl 0 rfl) ?_
  refine lv_bipush (v := 16) (pc := 139) hx hb dX11_init_139 (by decide) ?_
  refine c_newa (atype := .int) (ty := .int) (c0 := 20) (pc := 141) hC hU hA (by decide) hH hS hB gk1_17 gn1_17 (by decide) (by decide) rfl rfl rfl (fun _ => Iff.rfl) kac_int (by decide) rfl (by decide) (Nat.le_of_ble_eq_true rfl) (Nat.le_of_ble_eq_true rfl) dX11_init_141 (fun H hH hS => ?_)
  refine c_putr (v := 17) (pc := 143) hC hin hU hA (by decide) hH hS (by decide) gk1_0 g_cl11 rfl ct11 32 (by decide) kg_X11_63 rfl rfl rfl rfl dX11_init_143 (fun H locs hH hS => ?_)
  refine lv_aload_n (pc := 146) hx hb dX11_init_146 rfl (lv_at hl 0 rfl) ?_
  refine lv_bipush (v := 16) (pc := 147) hx hb dX11_init_147 (by decide) ?_
  refine c_newa (atype := .int) (ty := .int) (c0 := 20) (pc := 149) hC hU hA (by decide) hH hS hB gk1_18 gn1_18 (by decide) (by decide) rfl rfl rfl (fun _ => Iff.rfl) kac_int (by decide) rfl (by decide) (Nat.le_of_ble_eq_true rfl) (Nat.le_of_ble_eq_true rfl) dX11_init_149 (fun H hH hS => ?_)
  refine c_putr (v := 18) (pc := 151) hC hin hU hA (by decide) hH hS (by decide) gk1_0 g_cl11 rfl ct11 33 (by decide) kg_X11_66 rfl rfl rfl rfl dX11_init_151 (fun H locs hH hS => ?_)
  refine lv_aload_n (pc := 154) hx hb dX11_init_154 rfl (lv_at hl 0 rfl) ?_
  refine lv_bipush (v := 16) (pc := 155) hx hb dX11_init_155 (by decide) ?_
  refine c_newa (atype := .int) (ty := .int) (c0 := 20) (pc := 157) hC hU hA (by decide) hH hS hB gk1_19 gn1_19 (by decide) (by decide) rfl rfl rfl (fun _ => Iff.rfl) kac_int (by decide) rfl (by decide) (Nat.le_of_ble_eq_true rfl) (Nat.le_of_ble_eq_true rfl) dX11_init_157 (fun H hH hS => ?_)
  refine c_putr (v := 19) (pc := 159) hC hin hU hA (by decide) hH hS (by decide) gk1_0 g_cl11 rfl ct11 34 (by decide) kg_X11_69 rfl rfl rfl rfl dX11_init_159 (fun H locs hH hS => ?_)
  refine lv_aload_n (pc := 162) hx hb dX11_init_162 rfl (lv_at hl 0 rfl) ?_
  refine lv_bipush (v := 16) (pc := 163) hx hb dX11_init_163 (by decide) ?_
  refine c_newa (atype := .int) (ty := .int) (c0 := 20) (pc := 165) hC hU hA (by decide) hH hS hB gk1_20 gn1_20 (by decide) (by decide) rfl rfl rfl (fun _ => Iff.rfl) kac_int (by decide) rfl (by decide) (Nat.le_of_ble_eq_true rfl) (Nat.le_of_ble_eq_true rfl) dX11_init_165 (fun H hH hS => ?_)
  refine c_putr (v := 20) (pc := 167) hC hin hU hA (by decide) hH hS (by decide) gk1_0 g_cl11 rfl ct11 35 (by decide) kg_X11_72 rfl rfl rfl rfl dX11_init_167 (fun H locs hH hS => ?_)
  refine lv_aload_n (pc := 170) hx hb dX11_init_170 rfl (lv_at hl 0 rfl) ?_
  refine lv_bipush (v := 16) (pc := 171) hx hb dX11_init_171 (by decide) ?_
  refine c_newa (atype := .int) (ty := .int) (c0 := 20) (pc := 173) hC hU hA (by decide) hH hS hB gk1_21 gn1_21 (by decide) (by decide) rfl rfl rfl (fun _ => Iff.rfl) kac_int (by decide) rfl (by decide) (Nat.le_of_ble_eq_true rfl) (Nat.le_of_ble_eq_true rfl) dX11_init_173 (fun H hH hS => ?_)
  refine c_putr (v := 21) (pc := 175) hC hin hU hA (by decide) hH hS (by decide) gk1_0 g_cl11 rfl ct11 36 (by decide) kg_X11_75 rfl rfl rfl rfl dX11_init_175 (fun H locs hH hS => ?_)
  refine lv_aload_n (pc := 178) hx hb dX11_init_178 rfl (lv_at hl 0 rfl) ?_
  refine lv_bipush (v := 16) (pc := 179) hx hb dX11_init_179 (by decide) ?_
  refine c_newa (atype := .int) (ty := .int) (c0 := 20) (pc := 181) hC hU hA (by decide) hH hS hB gk1_22 gn1_22 (by decide) (by decide) rfl rfl rfl (fun _ => Iff.rfl) kac_int (by decide) rfl (by decide) (Nat.le_of_ble_eq_true rfl) (Nat.le_of_ble_eq_true rfl) dX11_init_181 (fun H hH hS => ?_)
  refine c_putr (v := 22) (pc := 183) hC hin hU hA (by decide) hH hS (by decide) gk1_0 g_cl11 rfl ct11 37 (by decide) kg_X11_78 rfl rfl rfl rfl dX11_init_183 (fun H locs hH hS => ?_)
  refine lv_aload_n (pc := 186) hx hb dX11_init_186 rfl (lv_at hl 0 rfl) ?_
  refine lv_bipush (v := 16) (pc := 187) hx hb dX11_init_187 (by decide) ?_
  refine c_newa (atype := .int) (ty := .int) (c0 := 20) (pc := 189) hC hU hA (by decide) hH hS hB gk1_23 gn1_23 (by decide) (by decide) rfl rfl rfl (fun _ => Iff.rfl) kac_int (by decide) rfl (by decide) (Nat.le_of_ble_eq_true rfl) (Nat.le_of_ble_eq_true rfl) dX11_init_189 (fun H hH hS => ?_)
  refine c_putr (v := 23) (pc := 191) hC hin hU hA (by decide) hH hS (by decide) gk1_0 g_cl11 rfl ct11 38 (by decide) kg_X11_81 rfl rfl rfl rfl dX11_init_191 (fun H locs hH hS => ?_)
  refine lv_aload_n (pc := 194) hx hb dX11_init_194 rfl (lv_at hl 0 rfl) ?_
  refine lv_bipush (v := 16) (pc := 195) hx hb dX11_init_195 (by decide) ?_
  refine c_newa (atype := .int) (ty := .int) (c0 := 20) (pc := 197) hC hU hA (by decide) hH hS hB gk1_24 gn1_24 (by decide) (by decide) rfl rfl rfl (fun _ => Iff.rfl) kac_int (by decide) rfl (by decide) (Nat.le_of_ble_eq_true rfl) (Nat.le_of_ble_eq_true rfl) dX11_init_197 (fun H hH hS => ?_)
  refine c_putr (v := 24) (pc := 199) hC hin hU hA (by decide) hH hS (by decide) gk1_0 g_cl11 rfl ct11 39 (by decide) kg_X11_84 rfl rfl rfl rfl dX11_init_199 (fun H locs hH hS => ?_)
  refine lv_aload_n (pc := 202) hx hb dX11_init_202 rfl (lv_at hl 0 rfl) ?_
  refine lv_bipush (v := 16) (pc := 203) hx hb dX11_init_203 (by decide) ?_
  refine c_newa (atype := .int) (ty := .int) (c0 := 20) (pc := 205) hC hU hA (by decide) hH hS hB gk1_25 gn1_25 (by decide) (by decide) rfl rfl rfl (fun _ => Iff.rfl) kac_int (by decide) rfl (by decide) (Nat.le_of_ble_eq_true rfl) (Nat.le_of_ble_eq_true rfl) dX11_init_205 (fun H hH hS => ?_)
  refine c_putr (v := 25) (pc := 207) hC hin hU hA (by decide) hH hS (by decide) gk1_0 g_cl11 rfl ct11 40 (by decide) kg_X11_87 rfl rfl rfl rfl dX11_init_207 (fun H locs hH hS => ?_)
  refine lv_aload_n (pc := 210) hx hb dX11_init_210 rfl (lv_at hl 0 rfl) ?_
  refine lv_iconst (v := 5) (pc := 211) hx hb dX11_init_211 (by decide) ?_
  refine c_newa (atype := .boolean) (ty := .boolean) (c0 := 21) (pc := 212) hC hU hA (by decide) hH hS hB gk1_26 gn1_26 (by decide) (by decide) rfl rfl rfl (fun _ => Iff.rfl) kac_boolean (by decide) rfl (by decide) (Nat.le_of_ble_eq_true rfl) (Nat.le_of_ble_eq_true rfl) dX11_init_212 (fun H hH hS => ?_)
  refine c_putr (v := 26) (pc := 214) hC hin hU hA (by decide) hH hS (by decide) gk1_0 g_cl11 rfl ct11 41 (by decide) kg_X11_90 rfl rfl rfl rfl dX11_init_214 (fun H locs hH hS => ?_)
  refine lv_aload_n (pc := 217) hx hb dX11_init_217 rfl (lv_at hl 0 rfl) ?_
  refine lv_iconst (v := 5) (pc := 218) hx hb dX11_init_218 (by decide) ?_
  refine c_newa (atype := .boolean) (ty := .boolean) (c0 := 21) (pc := 219) hC hU hA (by decide) hH hS hB gk1_27 gn1_27 (by decide) (by decide) rfl rfl rfl (fun _ => Iff.rfl) kac_boolean (by decide) rfl (by decide) (Nat.le_of_ble_eq_true rfl) (Nat.le_of_ble_eq_true rfl) dX11_init_219 (fun H hH hS => ?_)
  refine c_putr (v := 27) (pc := 221) hC hin hU hA (by decide) hH hS (by decide) gk1_0 g_cl11 rfl ct11 42 (by decide) kg_X11_94 rfl rfl rfl rfl dX11_init_221 (fun H locs hH hS => ?_)
  refine lv_aload_n (pc := 224) hx hb dX11_init_224 rfl (lv_at hl 0 rfl) ?_
  refine lv_bipush (v := 9) (pc := 225) hx hb dX11_init_225 (by decide) ?_
  refine c_puti (pc := 227) hC hin hU hA (by decide) hH hS (by decide) gk1_0 g_cl11 rfl ct11 51 (by decide) kg_X11_97 rfl rfl rfl dX11_init_227 (fun H locs hH hS => ?_)
  refine lv_aload_n (pc := 230) hx hb dX11_init_230 rfl (lv_at hl 0 rfl) ?_
  refine lv_bipush (v := 18) (pc := 231) hx hb dX11_init_231 (by decide) ?_
  refine c_newa (atype := .int) (ty := .int) (c0 := 20) (pc := 233) hC hU hA (by decide) hH hS hB gk1_28 gn1_28 (by decide) (by decide) rfl rfl rfl (fun _ => Iff.rfl) kac_int (by decide) rfl (by decide) (Nat.le_of_ble_eq_true rfl) (Nat.le_of_ble_eq_true rfl) dX11_init_233 (fun H hH hS => ?_)
  refine lv_dup (pc := 235) hx hb dX11_init_235 rfl ?_
  refine lv_iconst (v := 0) (pc := 236) hx hb dX11_init_236 (by decide) ?_
  refine lv_iconst (v := (-1)) (pc := 237) hx hb dX11_init_237 (by decide) ?_
  refine c_iast (pc := 238) (k := 28) hC hU hA (by decide) hH hS (by decide) gk1_28 gn1_28 (by decide) 0 rfl dX11_init_238 (fun H locs hH hS => ?_)
  refine lv_dup (pc := 239) hx hb dX11_init_239 rfl ?_
  refine lv_iconst (v := 1) (pc := 240) hx hb dX11_init_240 (by decide) ?_
  refine lv_iconst (v := (-1)) (pc := 241) hx hb dX11_init_241 (by decide) ?_
  refine c_iast (pc := 242) (k := 28) hC hU hA (by decide) hH hS (by decide) gk1_28 gn1_28 (by decide) 1 rfl dX11_init_242 (fun H locs hH hS => ?_)
  refine lv_dup (pc := 243) hx hb dX11_init_243 rfl ?_
  refine lv_iconst (v := 2) (pc := 244) hx hb dX11_init_244 (by decide) ?_
  refine lv_iconst (v := 0) (pc := 245) hx hb dX11_init_245 (by decide) ?_
  refine c_iast (pc := 246) (k := 28) hC hU hA (by decide) hH hS (by decide) gk1_28 gn1_28 (by decide) 2 rfl dX11_init_246 (fun H locs hH hS => ?_)
  refine lv_dup (pc := 247) hx hb dX11_init_247 rfl ?_
  refine lv_iconst (v := 3) (pc := 248) hx hb dX11_init_248 (by decide) ?_
  refine lv_iconst (v := 0) (pc := 249) hx hb dX11_init_249 (by decide) ?_
  refine c_iast (pc := 250) (k := 28) hC hU hA (by decide) hH hS (by decide) gk1_28 gn1_28 (by decide) 3 rfl dX11_init_250 (fun H locs hH hS => ?_)
  refine lv_dup (pc := 251) hx hb dX11_init_251 rfl ?_
  refine lv_iconst (v := 4) (pc := 252) hx hb dX11_init_252 (by decide) ?_
  refine lv_iconst (v := 0) (pc := 253) hx hb dX11_init_253 (by decide) ?_
  refine c_iast (pc := 254) (k := 28) hC hU hA (by decide) hH hS (by decide) gk1_28 gn1_28 (by decide) 4 rfl dX11_init_254 (fun H locs hH hS => ?_)
  refine lv_dup (pc := 255) hx hb dX11_init_255 rfl ?_
  refine lv_iconst (v := 5) (pc := 256) hx hb dX11_init_256 (by decide) ?_
  refine lv_iconst (v := 0) (pc := 257) hx hb dX11_init_257 (by decide) ?_
  refine c_iast (pc := 258) (k := 28) hC hU hA (by decide) hH hS (by decide) gk1_28 gn1_28 (by decide) 5 rfl dX11_init_258 (fun H locs hH hS => ?_)
  refine lv_dup (pc := 259) hx hb dX11_init_259 rfl ?_
  refine lv_bipush (v := 6) (pc := 260) hx hb dX11_init_260 (by decide) ?_
  refine lv_iconst (v := 0) (pc := 262) hx hb dX11_init_262 (by decide) ?_
  refine c_iast (pc := 263) (k := 28) hC hU hA (by decide) hH hS (by decide) gk1_28 gn1_28 (by decide) 6 rfl dX11_init_263 (fun H locs hH hS => ?_)
  refine lv_dup (pc := 264) hx hb dX11_init_264 rfl ?_
  refine lv_bipush (v := 7) (pc := 265) hx hb dX11_init_265 (by decide) ?_
  refine lv_iconst (v := 0) (pc := 267) hx hb dX11_init_267 (by decide) ?_
  refine c_iast (pc := 268) (k := 28) hC hU hA (by decide) hH hS (by decide) gk1_28 gn1_28 (by decide) 7 rfl dX11_init_268 (fun H locs hH hS => ?_)
  refine lv_dup (pc := 269) hx hb dX11_init_269 rfl ?_
  refine lv_bipush (v := 8) (pc := 270) hx hb dX11_init_270 (by decide) ?_
  refine lv_iconst (v := 0) (pc := 272) hx hb dX11_init_272 (by decide) ?_
  refine c_iast (pc := 273) (k := 28) hC hU hA (by decide) hH hS (by decide) gk1_28 gn1_28 (by decide) 8 rfl dX11_init_273 (fun H locs hH hS => ?_)
  refine lv_dup (pc := 274) hx hb dX11_init_274 rfl ?_
  refine lv_bipush (v := 9) (pc := 275) hx hb dX11_init_275 (by decide) ?_
  refine lv_iconst (v := 0) (pc := 277) hx hb dX11_init_277 (by decide) ?_
  refine c_iast (pc := 278) (k := 28) hC hU hA (by decide) hH hS (by decide) gk1_28 gn1_28 (by decide) 9 rfl dX11_init_278 (fun H locs hH hS => ?_)
  refine lv_dup (pc := 279) hx hb dX11_init_279 rfl ?_
  refine lv_bipush (v := 10) (pc := 280) hx hb dX11_init_280 (by decide) ?_
  refine lv_iconst (v := 0) (pc := 282) hx hb dX11_init_282 (by decide) ?_
  refine c_iast (pc := 283) (k := 28) hC hU hA (by decide) hH hS (by decide) gk1_28 gn1_28 (by decide) 10 rfl dX11_init_283 (fun H locs hH hS => ?_)
  refine lv_dup (pc := 284) hx hb dX11_init_284 rfl ?_
  refine lv_bipush (v := 11) (pc := 285) hx hb dX11_init_285 (by decide) ?_
  refine lv_iconst (v := 0) (pc := 287) hx hb dX11_init_287 (by decide) ?_
  refine c_iast (pc := 288) (k := 28) hC hU hA (by decide) hH hS (by decide) gk1_28 gn1_28 (by decide) 11 rfl dX11_init_288 (fun H locs hH hS => ?_)
  refine lv_dup (pc := 289) hx hb dX11_init_289 rfl ?_
  refine lv_bipush (v := 12) (pc := 290) hx hb dX11_init_290 (by decide) ?_
  refine lv_iconst (v := 0) (pc := 292) hx hb dX11_init_292 (by decide) ?_
  refine c_iast (pc := 293) (k := 28) hC hU hA (by decide) hH hS (by decide) gk1_28 gn1_28 (by decide) 12 rfl dX11_init_293 (fun H locs hH hS => ?_)
  refine lv_dup (pc := 294) hx hb dX11_init_294 rfl ?_
  refine lv_bipush (v := 13) (pc := 295) hx hb dX11_init_295 (by decide) ?_
  refine lv_iconst (v := 0) (pc := 297) hx hb dX11_init_297 (by decide) ?_
  refine c_iast (pc := 298) (k := 28) hC hU hA (by decide) hH hS (by decide) gk1_28 gn1_28 (by decide) 13 rfl dX11_init_298 (fun H locs hH hS => ?_)
  refine lv_dup (pc := 299) hx hb dX11_init_299 rfl ?_
  refine lv_bipush (v := 14) (pc := 300) hx hb dX11_init_300 (by decide) ?_
  refine lv_iconst (v := 0) (pc := 302) hx hb dX11_init_302 (by decide) ?_
  refine c_iast (pc := 303) (k := 28) hC hU hA (by decide) hH hS (by decide) gk1_28 gn1_28 (by decide) 14 rfl dX11_init_303 (fun H locs hH hS => ?_)
  refine lv_dup (pc := 304) hx hb dX11_init_304 rfl ?_
  refine lv_bipush (v := 15) (pc := 305) hx hb dX11_init_305 (by decide) ?_
  refine lv_iconst (v := 0) (pc := 307) hx hb dX11_init_307 (by decide) ?_
  refine c_iast (pc := 308) (k := 28) hC hU hA (by decide) hH hS (by decide) gk1_28 gn1_28 (by decide) 15 rfl dX11_init_308 (fun H locs hH hS => ?_)
  refine lv_dup (pc := 309) hx hb dX11_init_309 rfl ?_
  refine lv_bipush (v := 16) (pc := 310) hx hb dX11_init_310 (by decide) ?_
  refine lv_iconst (v := 0) (pc := 312) hx hb dX11_init_312 (by decide) ?_
  refine c_iast (pc := 313) (k := 28) hC hU hA (by decide) hH hS (by decide) gk1_28 gn1_28 (by decide) 16 rfl dX11_init_313 (fun H locs hH hS => ?_)
  refine lv_dup (pc := 314) hx hb dX11_init_314 rfl ?_
  refine lv_bipush (v := 17) (pc := 315) hx hb dX11_init_315 (by decide) ?_
  refine lv_iconst (v := 0) (pc := 317) hx hb dX11_init_317 (by decide) ?_
  refine c_iast (pc := 318) (k := 28) hC hU hA (by decide) hH hS (by decide) gk1_28 gn1_28 (by decide) 17 rfl dX11_init_318 (fun H locs hH hS => ?_)
  refine c_putr (v := 28) (pc := 319) hC hin hU hA (by decide) hH hS (by decide) gk1_0 g_cl11 rfl ct11 55 (by decide) kg_X11_100 rfl rfl rfl rfl dX11_init_319 (fun H locs hH hS => ?_)
  refine lv_aload_n (pc := 322) hx hb dX11_init_322 rfl (lv_at hl 0 rfl) ?_
  refine lv_bipush (v := 18) (pc := 323) hx hb dX11_init_323 (by decide) ?_
  refine c_newa (atype := .int) (ty := .int) (c0 := 20) (pc := 325) hC hU hA (by decide) hH hS hB gk1_29 gn1_29 (by decide) (by decide) rfl rfl rfl (fun _ => Iff.rfl) kac_int (by decide) rfl (by decide) (Nat.le_of_ble_eq_true rfl) (Nat.le_of_ble_eq_true rfl) dX11_init_325 (fun H hH hS => ?_)
  refine c_putr (v := 29) (pc := 327) hC hin hU hA (by decide) hH hS (by decide) gk1_0 g_cl11 rfl ct11 56 (by decide) kg_X11_103 rfl rfl rfl rfl dX11_init_327 (fun H locs hH hS => ?_)
  refine lv_aload_n (pc := 330) hx hb dX11_init_330 rfl (lv_at hl 0 rfl) ?_
  refine lv_sipush (v := 720) (pc := 331) hx hb dX11_init_331 (by decide) ?_
  refine c_newa (atype := .int) (ty := .int) (c0 := 20) (pc := 334) hC hU hA (by decide) hH hS hB gk1_30 gn1_30 (by decide) (by decide) rfl rfl rfl (fun _ => Iff.rfl) kac_int (by decide) rfl (by decide) (Nat.le_of_ble_eq_true rfl) (Nat.le_of_ble_eq_true rfl) dX11_init_334 (fun H hH hS => ?_)
  refine c_putr (v := 30) (pc := 336) hC hin hU hA (by decide) hH hS (by decide) gk1_0 g_cl11 rfl ct11 57 (by decide) kg_X11_106 rfl rfl rfl rfl dX11_init_336 (fun H locs hH hS => ?_)
  refine lv_aload_n (pc := 339) hx hb dX11_init_339 rfl (lv_at hl 0 rfl) ?_
  refine lv_bipush (v := 16) (pc := 340) hx hb dX11_init_340 (by decide) ?_
  refine c_newa (atype := .int) (ty := .int) (c0 := 20) (pc := 342) hC hU hA (by decide) hH hS hB gk1_31 gn1_31 (by decide) (by decide) rfl rfl rfl (fun _ => Iff.rfl) kac_int (by decide) rfl (by decide) (Nat.le_of_ble_eq_true rfl) (Nat.le_of_ble_eq_true rfl) dX11_init_342 (fun H hH hS => ?_)
  refine c_putr (v := 31) (pc := 344) hC hin hU hA (by decide) hH hS (by decide) gk1_0 g_cl11 rfl ct11 60 (by decide) kg_X11_109 rfl rfl rfl rfl dX11_init_344 (fun H locs hH hS => ?_)
  refine lv_aload_n (pc := 347) hx hb dX11_init_347 rfl (lv_at hl 0 rfl) ?_
  refine lv_bipush (v := 16) (pc := 348) hx hb dX11_init_348 (by decide) ?_
  refine c_newa (atype := .int) (ty := .int) (c0 := 20) (pc := 350) hC hU hA (by decide) hH hS hB gk1_32 gn1_32 (by decide) (by decide) rfl rfl rfl (fun _ => Iff.rfl) kac_int (by decide) rfl (by decide) (Nat.le_of_ble_eq_true rfl) (Nat.le_of_ble_eq_true rfl) dX11_init_350 (fun H hH hS => ?_)
  refine c_putr (v := 32) (pc := 352) hC hin hU hA (by decide) hH hS (by decide) gk1_0 g_cl11 rfl ct11 61 (by decide) kg_X11_112 rfl rfl rfl rfl dX11_init_352 (fun H locs hH hS => ?_)
  refine lv_aload_n (pc := 355) hx hb dX11_init_355 rfl (lv_at hl 0 rfl) ?_
  refine lv_iconst (v := 4) (pc := 356) hx hb dX11_init_356 (by decide) ?_
  refine c_newa (atype := .int) (ty := .int) (c0 := 20) (pc := 357) hC hU hA (by decide) hH hS hB gk1_33 gn1_33 (by decide) (by decide) rfl rfl rfl (fun _ => Iff.rfl) kac_int (by decide) rfl (by decide) (Nat.le_of_ble_eq_true rfl) (Nat.le_of_ble_eq_true rfl) dX11_init_357 (fun H hH hS => ?_)
  refine c_putr (v := 33) (pc := 359) hC hin hU hA (by decide) hH hS (by decide) gk1_0 g_cl11 rfl ct11 63 (by decide) kg_X11_115 rfl rfl rfl rfl dX11_init_359 (fun H locs hH hS => ?_)
  refine lv_aload_n (pc := 362) hx hb dX11_init_362 rfl (lv_at hl 0 rfl) ?_
  refine lv_bipush (v := 40) (pc := 363) hx hb dX11_init_363 (by decide) ?_
  refine c_newa (atype := .boolean) (ty := .boolean) (c0 := 21) (pc := 365) hC hU hA (by decide) hH hS hB gk1_34 gn1_34 (by decide) (by decide) rfl rfl rfl (fun _ => Iff.rfl) kac_boolean (by decide) rfl (by decide) (Nat.le_of_ble_eq_true rfl) (Nat.le_of_ble_eq_true rfl) dX11_init_365 (fun H hH hS => ?_)
  refine c_putr (v := 34) (pc := 367) hC hin hU hA (by decide) hH hS (by decide) gk1_0 g_cl11 rfl ct11 64 (by decide) kg_X11_118 rfl rfl rfl rfl dX11_init_367 (fun H locs hH hS => ?_)
  refine lv_aload_n (pc := 370) hx hb dX11_init_370 rfl (lv_at hl 0 rfl) ?_
  refine lv_bipush (v := 16) (pc := 371) hx hb dX11_init_371 (by decide) ?_
  refine c_newa (atype := .int) (ty := .int) (c0 := 20) (pc := 373) hC hU hA (by decide) hH hS hB gk1_35 gn1_35 (by decide) (by decide) rfl rfl rfl (fun _ => Iff.rfl) kac_int (by decide) rfl (by decide) (Nat.le_of_ble_eq_true rfl) (Nat.le_of_ble_eq_true rfl) dX11_init_373 (fun H hH hS => ?_)
  refine c_putr (v := 35) (pc := 375) hC hin hU hA (by decide) hH hS (by decide) gk1_0 g_cl11 rfl ct11 65 (by decide) kg_X11_121 rfl rfl rfl rfl dX11_init_375 (fun H locs hH hS => ?_)
  refine lv_aload_n (pc := 378) hx hb dX11_init_378 rfl (lv_at hl 0 rfl) ?_
  refine lv_bipush (v := 16) (pc := 379) hx hb dX11_init_379 (by decide) ?_
  refine c_newa (atype := .int) (ty := .int) (c0 := 20) (pc := 381) hC hU hA (by decide) hH hS hB gk1_36 gn1_36 (by decide) (by decide) rfl rfl rfl (fun _ => Iff.rfl) kac_int (by decide) rfl (by decide) (Nat.le_of_ble_eq_true rfl) (Nat.le_of_ble_eq_true rfl) dX11_init_381 (fun H hH hS => ?_)
  refine c_putr (v := 36) (pc := 383) hC hin hU hA (by decide) hH hS (by decide) gk1_0 g_cl11 rfl ct11 66 (by decide) kg_X11_124 rfl rfl rfl rfl dX11_init_383 (fun H locs hH hS => ?_)
  refine lv_aload_n (pc := 386) hx hb dX11_init_386 rfl (lv_at hl 0 rfl) ?_
  refine lv_bipush (v := 30) (pc := 387) hx hb dX11_init_387 (by decide) ?_
  refine c_newa (atype := .int) (ty := .int) (c0 := 20) (pc := 389) hC hU hA (by decide) hH hS hB gk1_37 gn1_37 (by decide) (by decide) rfl rfl rfl (fun _ => Iff.rfl) kac_int (by decide) rfl (by decide) (Nat.le_of_ble_eq_true rfl) (Nat.le_of_ble_eq_true rfl) dX11_init_389 (fun H hH hS => ?_)
  refine c_putr (v := 37) (pc := 391) hC hin hU hA (by decide) hH hS (by decide) gk1_0 g_cl11 rfl ct11 67 (by decide) kg_X11_127 rfl rfl rfl rfl dX11_init_391 (fun H locs hH hS => ?_)
  refine lv_aload_n (pc := 394) hx hb dX11_init_394 rfl (lv_at hl 0 rfl) ?_
  refine lv_bipush (v := 30) (pc := 395) hx hb dX11_init_395 (by decide) ?_
  refine c_newa (atype := .int) (ty := .int) (c0 := 20) (pc := 397) hC hU hA (by decide) hH hS hB gk1_38 gn1_38 (by decide) (by decide) rfl rfl rfl (fun _ => Iff.rfl) kac_int (by decide) rfl (by decide) (Nat.le_of_ble_eq_true rfl) (Nat.le_of_ble_eq_true rfl) dX11_init_397 (fun H hH hS => ?_)
  refine c_putr (v := 38) (pc := 399) hC hin hU hA (by decide) hH hS (by decide) gk1_0 g_cl11 rfl ct11 68 (by decide) kg_X11_130 rfl rfl rfl rfl dX11_init_399 (fun H locs hH hS => ?_)
  refine lv_aload_n (pc := 402) hx hb dX11_init_402 rfl (lv_at hl 0 rfl) ?_
  refine lv_bipush (v := 30) (pc := 403) hx hb dX11_init_403 (by decide) ?_
  refine c_newa (atype := .int) (ty := .int) (c0 := 20) (pc := 405) hC hU hA (by decide) hH hS hB gk1_39 gn1_39 (by decide) (by decide) rfl rfl rfl (fun _ => Iff.rfl) kac_int (by decide) rfl (by decide) (Nat.le_of_ble_eq_true rfl) (Nat.le_of_ble_eq_true rfl) dX11_init_405 (fun H hH hS => ?_)
  refine c_putr (v := 39) (pc := 407) hC hin hU hA (by decide) hH hS (by decide) gk1_0 g_cl11 rfl ct11 69 (by decide) kg_X11_133 rfl rfl rfl rfl dX11_init_407 (fun H locs hH hS => ?_)
  refine lv_aload_n (pc := 410) hx hb dX11_init_410 rfl (lv_at hl 0 rfl) ?_
  refine lv_bipush (v := 30) (pc := 411) hx hb dX11_init_411 (by decide) ?_
  refine c_newa (atype := .int) (ty := .int) (c0 := 20) (pc := 413) hC hU hA (by decide) hH hS hB gk1_40 gn1_40 (by decide) (by decide) rfl rfl rfl (fun _ => Iff.rfl) kac_int (by decide) rfl (by decide) (Nat.le_of_ble_eq_true rfl) (Nat.le_of_ble_eq_true rfl) dX11_init_413 (fun H hH hS => ?_)
  refine c_putr (v := 40) (pc := 415) hC hin hU hA (by decide) hH hS (by decide) gk1_0 g_cl11 rfl ct11 70 (by decide) kg_X11_136 rfl rfl rfl rfl dX11_init_415 (fun H locs hH hS => ?_)
  refine lv_aload_n (pc := 418) hx hb dX11_init_418 rfl (lv_at hl 0 rfl) ?_
  refine lv_bipush (v := 30) (pc := 419) hx hb dX11_init_419 (by decide) ?_
  refine c_newa (atype := .int) (ty := .int) (c0 := 20) (pc := 421) hC hU hA (by decide) hH hS hB gk1_41 gn1_41 (by decide) (by decide) rfl rfl rfl (fun _ => Iff.rfl) kac_int (by decide) rfl (by decide) (Nat.le_of_ble_eq_true rfl) (Nat.le_of_ble_eq_true rfl) dX11_init_421 (fun H hH hS => ?_)
  refine c_putr (v := 41) (pc := 423) hC hin hU hA (by decide) hH hS (by decide) gk1_0 g_cl11 rfl ct11 71 (by decide) kg_X11_139 rfl rfl rfl rfl dX11_init_423 (fun H locs hH hS => ?_)
  refine lv_aload_n (pc := 426) hx hb dX11_init_426 rfl (lv_at hl 0 rfl) ?_
  refine lv_bipush (v := 30) (pc := 427) hx hb dX11_init_427 (by decide) ?_
  refine c_newa (atype := .boolean) (ty := .boolean) (c0 := 21) (pc := 429) hC hU hA (by decide) hH hS hB gk1_42 gn1_42 (by decide) (by decide) rfl rfl rfl (fun _ => Iff.rfl) kac_boolean (by decide) rfl (by decide) (Nat.le_of_ble_eq_true rfl) (Nat.le_of_ble_eq_true rfl) dX11_init_429 (fun H hH hS => ?_)
  refine c_putr (v := 42) (pc := 431) hC hin hU hA (by decide) hH hS (by decide) gk1_0 g_cl11 rfl ct11 72 (by decide) kg_X11_142 rfl rfl rfl rfl dX11_init_431 (fun H locs hH hS => ?_)
  refine lv_aload_n (pc := 434) hx hb dX11_init_434 rfl (lv_at hl 0 rfl) ?_
  refine lv_bipush (v := 56) (pc := 435) hx hb dX11_init_435 (by decide) ?_
  refine c_newa (atype := .int) (ty := .int) (c0 := 20) (pc := 437) hC hU hA (by decide) hH hS hB gk1_43 gn1_43 (by decide) (by decide) rfl rfl rfl (fun _ => Iff.rfl) kac_int (by decide) rfl (by decide) (Nat.le_of_ble_eq_true rfl) (Nat.le_of_ble_eq_true rfl) dX11_init_437 (fun H hH hS => ?_)
  refine c_putr (v := 43) (pc := 439) hC hin hU hA (by decide) hH hS (by decide) gk1_0 g_cl11 rfl ct11 75 (by decide) kg_X11_145 rfl rfl rfl rfl dX11_init_439 (fun H locs hH hS => ?_)
  refine lv_aload_n (pc := 442) hx hb dX11_init_442 rfl (lv_at hl 0 rfl) ?_
  refine lv_bipush (v := 56) (pc := 443) hx hb dX11_init_443 (by decide) ?_
  refine c_newa (atype := .int) (ty := .int) (c0 := 20) (pc := 445) hC hU hA (by decide) hH hS hB gk1_44 gn1_44 (by decide) (by decide) rfl rfl rfl (fun _ => Iff.rfl) kac_int (by decide) rfl (by decide) (Nat.le_of_ble_eq_true rfl) (Nat.le_of_ble_eq_true rfl) dX11_init_445 (fun H hH hS => ?_)
  refine c_putr (v := 44) (pc := 447) hC hin hU hA (by decide) hH hS (by decide) gk1_0 g_cl11 rfl ct11 76 (by decide) kg_X11_148 rfl rfl rfl rfl dX11_init_447 (fun H locs hH hS => ?_)
  refine lv_aload_n (pc := 450) hx hb dX11_init_450 rfl (lv_at hl 0 rfl) ?_
  refine lv_iconst (v := 3) (pc := 451) hx hb dX11_init_451 (by decide) ?_
  refine c_newa (atype := .boolean) (ty := .boolean) (c0 := 21) (pc := 452) hC hU hA (by decide) hH hS hB gk1_45 gn1_45 (by decide) (by decide) rfl rfl rfl (fun _ => Iff.rfl) kac_boolean (by decide) rfl (by decide) (Nat.le_of_ble_eq_true rfl) (Nat.le_of_ble_eq_true rfl) dX11_init_452 (fun H hH hS => ?_)
  refine c_putr (v := 45) (pc := 454) hC hin hU hA (by decide) hH hS (by decide) gk1_0 g_cl11 rfl ct11 77 (by decide) kg_X11_151 rfl rfl rfl rfl dX11_init_454 (fun H locs hH hS => ?_)
  refine lv_aload_n (pc := 457) hx hb dX11_init_457 rfl (lv_at hl 0 rfl) ?_
  refine lv_bipush (v := 54) (pc := 458) hx hb dX11_init_458 (by decide) ?_
  refine c_newa (atype := .int) (ty := .int) (c0 := 20) (pc := 460) hC hU hA (by decide) hH hS hB gk1_46 gn1_46 (by decide) (by decide) rfl rfl rfl (fun _ => Iff.rfl) kac_int (by decide) rfl (by decide) (Nat.le_of_ble_eq_true rfl) (Nat.le_of_ble_eq_true rfl) dX11_init_460 (fun H hH hS => ?_)
  refine c_putr (v := 46) (pc := 462) hC hin hU hA (by decide) hH hS (by decide) gk1_0 g_cl11 rfl ct11 78 (by decide) kg_X11_154 rfl rfl rfl rfl dX11_init_462 (fun H locs hH hS => ?_)
  exact c_vret (pc := 465) hC hret hlk hH hS rfl rfl dX11_init_465

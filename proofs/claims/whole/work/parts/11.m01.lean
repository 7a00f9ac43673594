section
variable {p : Program} {l : Launch} {e : Env} {s : State} {m : MethodId} {args : Array Value} {below : List Frame} {meth : Method} {c : Code} {D : va_G} {cA : Nat → ClassId} {ad : Nat → Nat}
def fX11_close_0 (a1 : Int32) (k0 : gS → Option (gS))  (st : gS) : Option (gS) :=
  if (st.1 0 19) ≤ 0 then (some st) else (gc (gI ((st.1 0 19) - 1) 160) (if (st.1 7 ((st.1 0 19) - 1).toNatClampNeg) = 20 then (some st) else (gc (gI ((st.1 0 19) - 1) 160) ((fX11_tight (st.1 7 ((st.1 0 19) - 1).toNatClampNeg) st).bind fun q0_1 => (if q0_1.1 < a1 then (some q0_1.2) else (gc (gI ((wi q0_1.2 0 19 ((q0_1.2.1 0 19) - 1)).1 0 19) 160) (if ((wi q0_1.2 0 19 ((q0_1.2.1 0 19) - 1)).1 7 ((wi q0_1.2 0 19 ((q0_1.2.1 0 19) - 1)).1 0 19).toNatClampNeg) = 21 then ((fX11_add 2 0 (wi q0_1.2 0 19 ((q0_1.2.1 0 19) - 1))).bind fun q0_3 => (k0 (wi q0_3 0 23 ((q0_3.1 0 23) - 1)))) else (gc (gI ((wi q0_1.2 0 19 ((q0_1.2.1 0 19) - 1)).1 0 19) 160) ((fX11_add 3 ((wi q0_1.2 0 19 ((q0_1.2.1 0 19) - 1)).1 7 ((wi q0_1.2 0 19 ((q0_1.2.1 0 19) - 1)).1 0 19).toNatClampNeg) (wi q0_1.2 0 19 ((q0_1.2.1 0 19) - 1))).bind fun q0_2 => (k0 q0_2))))))))))
set_option maxRecDepth 100000 in
set_option maxHeartbeats 4000000 in
theorem bX11_close_0 {a1 : Int32} (hC : CallFix p m c cX11_close 2 s args lw_good RX11) (hret : meth.sig.returnType = none) (hlk : meth.locks = false) (hU : gU 1 D cA ad s)  {st' : gS} {k0 : gS → Option (gS)} (hk0 : ∀  {st : gS} {H : Heap} {locs : List Loc} {ls : Array Slot}, k0  st = some st' → gP0 1 D cA ad st H → va_S (gA 1 ad) s.heap H locs → lv_has ls 2 [(0, .ref (ad 0)), (1, .int a1)] → W p l e (gRm 2) s m args below meth c H locs 0 0 (MQ below (gQc 1 D cA ad st' none) args s 0 0 (gA 1 ad)) (F0 m 0 ls []))  {st : gS} {H : Heap} {locs : List Loc} {ls : Array Slot} (hf : fX11_close_0 a1 k0 st = some st') (hH : gP0 1 D cA ad st H) (hS : va_S (gA 1 ad) s.heap H locs) (hl : lv_has ls 2 [(0, .ref (ad 0)), (1, .int a1)]) : W p l e (gRm 2) s m args below meth c H locs 0 0 (MQ below (gQc 1 D cA ad st' none) args s 0 0 (gA 1 ad)) (F0 m 0 ls []) := by
  obtain ⟨hx, hb, hml, hown, hts⟩ := id hC
  unfold fX11_close_0 at hf
  refine lv_aload_n (pc := 0) hx hb dX11_close_0 rfl (lv_at hl 0 rfl) ?_
  refine g_get (pc := 1) (v := .int (st.1 0 19)) hC hU hH gk1_0 g_cl11 19 (by decide) kf_X11_275 rfl dX11_close_1 ?_
  refine lv_if_le (tgt := 101) (pc := 4) hx hb dX11_close_4 (by decide) (fun hc => ?_) (fun hc => ?_)
  · have hf := gif_p hc hf
    exact g_vret (pc := 101) hC hret hlk hH hS hf dX11_close_101
  · have hf := gif_n hc hf
    refine lv_aload_n (pc := 7) hx hb dX11_close_7 rfl (lv_at hl 0 rfl) ?_
    refine g_get (pc := 8) (v := .ref (ad 7)) hC hU hH gk1_0 g_cl11 15 (by decide) kf_X11_33 rfl dX11_close_8 ?_
    refine lv_aload_n (pc := 11) hx hb dX11_close_11 rfl (lv_at hl 0 rfl) ?_
    refine g_get (pc := 12) (v := .int (st.1 0 19)) hC hU hH gk1_0 g_cl11 19 (by decide) kf_X11_275 rfl dX11_close_12 ?_
    refine lv_iconst (v := 1) (pc := 15) hx hb dX11_close_15 (by decide) ?_
    refine lv_isub (pc := 16) hx hb dX11_close_16 ?_
    obtain ⟨h0_1, hf⟩ := gc_s hf
    refine g_iald (pc := 17) hC hU hH gk1_7 gn1_7 h0_1 dX11_close_17 ?_
    refine lv_bipush (v := 20) (pc := 18) hx hb dX11_close_18 (by decide) ?_
    refine lv_icmp_eq (tgt := 101) (pc := 20) hx hb dX11_close_20 (by decide) (fun hc => ?_) (fun hc => ?_)
    · have hf := gif_p hc hf
      exact g_vret (pc := 101) hC hret hlk hH hS hf dX11_close_101
    · have hf := gif_n hc hf
      refine lv_aload_n (pc := 23) hx hb dX11_close_23 rfl (lv_at hl 0 rfl) ?_
      refine g_get (pc := 24) (v := .ref (ad 7)) hC hU hH gk1_0 g_cl11 15 (by decide) kf_X11_33 rfl dX11_close_24 ?_
      refine lv_aload_n (pc := 27) hx hb dX11_close_27 rfl (lv_at hl 0 rfl) ?_
      refine g_get (pc := 28) (v := .int (st.1 0 19)) hC hU hH gk1_0 g_cl11 19 (by decide) kf_X11_275 rfl dX11_close_28 ?_
      refine lv_iconst (v := 1) (pc := 31) hx hb dX11_close_31 (by decide) ?_
      refine lv_isub (pc := 32) hx hb dX11_close_32 ?_
      obtain ⟨h0_2, hf⟩ := gc_s hf
      refine g_iald (pc := 33) hC hU hH gk1_7 gn1_7 h0_2 dX11_close_33 ?_
      obtain ⟨q0_1, hq0_1, hf⟩ := gbd hf
      refine g_callSi (pc := 34) (rest := []) hC hU hH hS hl.1 (mX11_tight  hq0_1) ky_X11_tight km_X11_278 ⟨Nat.le_of_ble_eq_true rfl, Nat.le_of_ble_eq_true rfl⟩ ⟨Nat.zero_le _, Nat.zero_le _⟩ rfl (Nat.le_of_ble_eq_true rfl) dX11_close_34 rfl (fun H locs hH hS => ?_)
      refine lv_iload_n (pc := 37) hx hb dX11_close_37 rfl (lv_at hl 1 rfl) ?_
      refine lv_icmp_lt (tgt := 101) (pc := 38) hx hb dX11_close_38 (by decide) (fun hc => ?_) (fun hc => ?_)
      · have hf := gif_p hc hf
        exact g_vret (pc := 101) hC hret hlk hH hS hf dX11_close_101
      · have hf := gif_n hc hf
        refine lv_aload_n (pc := 41) hx hb dX11_close_41 rfl (lv_at hl 0 rfl) ?_
        refine lv_dup (pc := 42) hx hb dX11_close_42 rfl ?_
        refine g_get (pc := 43) (v := .int (q0_1.2.1 0 19)) hC hU hH gk1_0 g_cl11 19 (by decide) kf_X11_275 rfl dX11_close_43 ?_
        refine lv_iconst (v := 1) (pc := 46) hx hb dX11_close_46 (by decide) ?_
        refine lv_isub (pc := 47) hx hb dX11_close_47 ?_
        refine g_puti (pc := 48) hC hU hH hS gk1_0 g_cl11 19 (by decide) kf_X11_275 rfl rfl rfl rfl dX11_close_48 (fun H locs hH hS => ?_)
        refine lv_aload_n (pc := 51) hx hb dX11_close_51 rfl (lv_at hl 0 rfl) ?_
        refine g_get (pc := 52) (v := .ref (ad 7)) hC hU hH gk1_0 g_cl11 15 (by decide) kf_X11_33 rfl dX11_close_52 ?_
        refine lv_aload_n (pc := 55) hx hb dX11_close_55 rfl (lv_at hl 0 rfl) ?_
        refine g_get (pc := 56) (v := .int ((wi q0_1.2 0 19 ((q0_1.2.1 0 19) - 1)).1 0 19)) hC hU hH gk1_0 g_cl11 19 (by decide) kf_X11_275 rfl dX11_close_56 ?_
        obtain ⟨h0_3, hf⟩ := gc_s hf
        refine g_iald (pc := 59) hC hU hH gk1_7 gn1_7 h0_3 dX11_close_59 ?_
        refine lv_bipush (v := 21) (pc := 60) hx hb dX11_close_60 (by decide) ?_
        refine lv_icmp_ne (tgt := 84) (pc := 62) hx hb dX11_close_62 (by decide) (fun hc => ?_) (fun hc => ?_)
        · have hf := gif_n hc hf
          refine lv_aload_n (pc := 84) hx hb dX11_close_84 rfl (lv_at hl 0 rfl) ?_
          refine lv_iconst (v := 3) (pc := 85) hx hb dX11_close_85 (by decide) ?_
          refine lv_aload_n (pc := 86) hx hb dX11_close_86 rfl (lv_at hl 0 rfl) ?_
          refine g_get (pc := 87) (v := .ref (ad 7)) hC hU hH gk1_0 g_cl11 15 (by decide) kf_X11_33 rfl dX11_close_87 ?_
          refine lv_aload_n (pc := 90) hx hb dX11_close_90 rfl (lv_at hl 0 rfl) ?_
          refine g_get (pc := 91) (v := .int ((wi q0_1.2 0 19 ((q0_1.2.1 0 19) - 1)).1 0 19)) hC hU hH gk1_0 g_cl11 19 (by decide) kf_X11_275 rfl dX11_close_91 ?_
          obtain ⟨h0_4, hf⟩ := gc_s hf
          refine g_iald (pc := 94) hC hU hH gk1_7 gn1_7 h0_4 dX11_close_94 ?_
          obtain ⟨q0_2, hq0_2, hf⟩ := gbd hf
          refine g_callVv (pc := 95) (rest := []) hC hU hH hS hl.1 gk1_0 rfl (by decide) (mX11_add  hq0_2) ky_X11_add km_X11_281 ⟨Nat.le_of_ble_eq_true rfl, Nat.le_of_ble_eq_true rfl⟩ ⟨Nat.zero_le _, Nat.zero_le _⟩ rfl (Nat.le_of_ble_eq_true rfl) dX11_close_95 rfl (fun H locs hH hS => ?_)
          refine lv_goto (tgt := 0) (pc := 98) hx hb dX11_close_98 (by decide) ?_
          exact hk0 hf hH hS (lv_sub hl [0, 1] rfl)
        · have hf := gif_p hc hf
          refine lv_aload_n (pc := 65) hx hb dX11_close_65 rfl (lv_at hl 0 rfl) ?_
          refine lv_iconst (v := 2) (pc := 66) hx hb dX11_close_66 (by decide) ?_
          refine lv_iconst (v := 0) (pc := 67) hx hb dX11_close_67 (by decide) ?_
          obtain ⟨q0_3, hq0_3, hf⟩ := gbd hf
          refine g_callVv (pc := 68) (rest := []) hC hU hH hS hl.1 gk1_0 rfl (by decide) (mX11_add  hq0_3) ky_X11_add km_X11_281 ⟨Nat.le_of_ble_eq_true rfl, Nat.le_of_ble_eq_true rfl⟩ ⟨Nat.zero_le _, Nat.zero_le _⟩ rfl (Nat.le_of_ble_eq_true rfl) dX11_close_68 rfl (fun H locs hH hS => ?_)
          refine lv_aload_n (pc := 71) hx hb dX11_close_71 rfl (lv_at hl 0 rfl) ?_
          refine lv_dup (pc := 72) hx hb dX11_close_72 rfl ?_
          refine g_get (pc := 73) (v := .int (q0_3.1 0 23)) hC hU hH gk1_0 g_cl11 23 (by decide) kf_X11_285 rfl dX11_close_73 ?_
          refine lv_iconst (v := 1) (pc := 76) hx hb dX11_close_76 (by decide) ?_
          refine lv_isub (pc := 77) hx hb dX11_close_77 ?_
          refine g_puti (pc := 78) hC hU hH hS gk1_0 g_cl11 23 (by decide) kf_X11_285 rfl rfl rfl rfl dX11_close_78 (fun H locs hH hS => ?_)
          refine lv_goto (tgt := 0) (pc := 81) hx hb dX11_close_81 (by decide) ?_
          exact hk0 hf hH hS (lv_sub hl [0, 1] rfl)
def hX11_close_0 (a1 : Int32)  : Nat → gS → Option (gS)
  | 0 => fun _ => none
  | n + 1 => fun  st => fX11_close_0 a1 (hX11_close_0 a1 n) st
set_option maxRecDepth 100000 in
set_option maxHeartbeats 4000000 in
theorem wX11_close_0 {a1 : Int32} (hC : CallFix p m c cX11_close 2 s args lw_good RX11) (hret : meth.sig.returnType = none) (hlk : meth.locks = false) (hU : gU 1 D cA ad s)  {st' : gS}  : ∀ (n : Nat)  {st : gS} {H : Heap} {locs : List Loc} {ls : Array Slot}, hX11_close_0 a1 n  st = some st' → gP0 1 D cA ad st H → va_S (gA 1 ad) s.heap H locs → lv_has ls 2 [(0, .ref (ad 0)), (1, .int a1)] → W p l e (gRm 2) s m args below meth c H locs 0 0 (MQ below (gQc 1 D cA ad st' none) args s 0 0 (gA 1 ad)) (F0 m 0 ls []) := by
  intro n
  induction n with
  | zero => intro  st H locs ls hf hH hS hl; cases hf
  | succ n ih =>
    intro  st H locs ls hf hH hS hl
    exact bX11_close_0 (a1 := a1) hC hret hlk hU (fun hf hH hS hl => ih hf hH hS hl) hf hH hS hl
def fX11_close (a1 : Int32) (st : gS) : Option (gS) := hX11_close_0 a1 FU st
set_option maxRecDepth 100000 in
set_option maxHeartbeats 4000000 in
theorem mX11_close {l : Launch} {D : va_G} {cA : Nat → ClassId} {ad : Nat → Nat} {a1 : Int32}  {st st' : gS} (hf : fX11_close a1 st = some st') : gM l yX11_close cX11_close 2 none 2 1 D cA ad st [.ref (ad 0), .int a1] none st' := by
  refine g_met (by decide) (Nat.le_of_ble_eq_true rfl) ?_
  intro p e s m args below meth c ls hC hret hlk hU hH hl
  exact wX11_close_0 hC hret hlk hU FU hf hH va_S.rf hl
def fX11_hasRelation_41   (l1 : Int32) (st : gS) : Option (Int32 × gS) :=
  if l1 < 0 then (some (0, st)) else (gc (gI l1 160) (if (st.1 7 l1.toNatClampNeg) = 20 then (some (0, st)) else (gc (gI l1 160) ((fX11_tight (st.1 7 l1.toNatClampNeg) st).bind fun q41_1 => (if q41_1.1 = 4 then (some (1, q41_1.2)) else (some (0, q41_1.2)))))))
set_option maxRecDepth 100000 in
set_option maxHeartbeats 4000000 in
theorem bX11_hasRelation_41  (hC : CallFix p m c cX11_hasRelation 2 s args lw_good RX11) (hret : meth.sig.returnType = (some .boolean)) (hlk : meth.locks = false) (hU : gU 1 D cA ad s)  {r : Int32} {st' : gS}  {l1 : Int32} {st : gS} {H : Heap} {locs : List Loc} {ls : Array Slot} (hf : fX11_hasRelation_41 l1 st = some (r, st')) (hH : gP0 1 D cA ad st H) (hS : va_S (gA 1 ad) s.heap H locs) (hl : lv_has ls 2 [(0, .ref (ad 0)), (1, .int l1)]) : W p l e (gRm 2) s m args below meth c H locs 0 0 (MQ below (gQc 1 D cA ad st' (some (.int r))) args s 0 0 (gA 1 ad)) (F0 m 41 ls []) := by
  obtain ⟨hx, hb, hml, hown, hts⟩ := id hC
  unfold fX11_hasRelation_41 at hf
  refine lv_iload_n (pc := 41) hx hb dX11_hasRelation_41 rfl (lv_at hl 1 rfl) ?_
  refine lv_if_lt (tgt := 73) (pc := 42) hx hb dX11_hasRelation_42 (by decide) (fun hc => ?_) (fun hc => ?_)
  · have hf := gif_p hc hf
    refine lv_iconst (v := 0) (pc := 73) hx hb dX11_hasRelation_73 (by decide) ?_
    exact g_zret (pc := 74) hC hret hlk hH hS (by decide) hf dX11_hasRelation_74
  · have hf := gif_n hc hf
    refine lv_aload_n (pc := 45) hx hb dX11_hasRelation_45 rfl (lv_at hl 0 rfl) ?_
    refine g_get (pc := 46) (v := .ref (ad 7)) hC hU hH gk1_0 g_cl11 15 (by decide) kf_X11_33 rfl dX11_hasRelation_46 ?_
    refine lv_iload_n (pc := 49) hx hb dX11_hasRelation_49 rfl (lv_at hl 1 rfl) ?_
    obtain ⟨h41_1, hf⟩ := gc_s hf
    refine g_iald (pc := 50) hC hU hH gk1_7 gn1_7 h41_1 dX11_hasRelation_50 ?_
    refine lv_bipush (v := 20) (pc := 51) hx hb dX11_hasRelation_51 (by decide) ?_
    refine lv_icmp_eq (tgt := 73) (pc := 53) hx hb dX11_hasRelation_53 (by decide) (fun hc => ?_) (fun hc => ?_)
    · have hf := gif_p hc hf
      refine lv_iconst (v := 0) (pc := 73) hx hb dX11_hasRelation_73 (by decide) ?_
      exact g_zret (pc := 74) hC hret hlk hH hS (by decide) hf dX11_hasRelation_74
    · have hf := gif_n hc hf
      refine lv_aload_n (pc := 56) hx hb dX11_hasRelation_56 rfl (lv_at hl 0 rfl) ?_
      refine g_get (pc := 57) (v := .ref (ad 7)) hC hU hH gk1_0 g_cl11 15 (by decide) kf_X11_33 rfl dX11_hasRelation_57 ?_
      refine lv_iload_n (pc := 60) hx hb dX11_hasRelation_60 rfl (lv_at hl 1 rfl) ?_
      obtain ⟨h41_2, hf⟩ := gc_s hf
      refine g_iald (pc := 61) hC hU hH gk1_7 gn1_7 h41_2 dX11_hasRelation_61 ?_
      obtain ⟨q41_1, hq41_1, hf⟩ := gbd hf
      refine g_callSi (pc := 62) (rest := []) hC hU hH hS hl.1 (mX11_tight  hq41_1) ky_X11_tight km_X11_278 ⟨Nat.le_of_ble_eq_true rfl, Nat.le_of_ble_eq_true rfl⟩ ⟨Nat.zero_le _, Nat.zero_le _⟩ rfl (Nat.le_of_ble_eq_true rfl) dX11_hasRelation_62 rfl (fun H locs hH hS => ?_)
      refine lv_iconst (v := 4) (pc := 65) hx hb dX11_hasRelation_65 (by decide) ?_
      refine lv_icmp_ne (tgt := 73) (pc := 66) hx hb dX11_hasRelation_66 (by decide) (fun hc => ?_) (fun hc => ?_)
      · have hf := gif_n hc hf
        refine lv_iconst (v := 0) (pc := 73) hx hb dX11_hasRelation_73 (by decide) ?_
        exact g_zret (pc := 74) hC hret hlk hH hS (by decide) hf dX11_hasRelation_74
      · have hf := gif_p hc hf
        refine lv_iconst (v := 1) (pc := 69) hx hb dX11_hasRelation_69 (by decide) ?_
        refine lv_goto (tgt := 74) (pc := 70) hx hb dX11_hasRelation_70 (by decide) ?_
        exact g_zret (pc := 74) hC hret hlk hH hS (by decide) hf dX11_hasRelation_74
def fX11_hasRelation_7  (k7 : Int32 → gS → Option (Int32 × gS)) (l1 : Int32) (st : gS) : Option (Int32 × gS) :=
  if l1 < 0 then (fX11_hasRelation_41 l1 st) else (gc (gI l1 160) (if (st.1 7 l1.toNatClampNeg) = 20 then (fX11_hasRelation_41 l1 st) else (gc (gI l1 160) ((fX11_tight (st.1 7 l1.toNatClampNeg) st).bind fun q7_1 => (if q7_1.1 ≤ 4 then (fX11_hasRelation_41 l1 q7_1.2) else (k7 (l1 + (-1)) q7_1.2))))))
set_option maxRecDepth 100000 in
set_option maxHeartbeats 4000000 in
theorem bX11_hasRelation_7  (hC : CallFix p m c cX11_hasRelation 2 s args lw_good RX11) (hret : meth.sig.returnType = (some .boolean)) (hlk : meth.locks = false) (hU : gU 1 D cA ad s)  {r : Int32} {st' : gS} {k7 : Int32 → gS → Option (Int32 × gS)} (hk7 : ∀ {l1 : Int32} {st : gS} {H : Heap} {locs : List Loc} {ls : Array Slot}, k7 l1 st = some (r, st') → gP0 1 D cA ad st H → va_S (gA 1 ad) s.heap H locs → lv_has ls 2 [(0, .ref (ad 0)), (1, .int l1)] → W p l e (gRm 2) s m args below meth c H locs 0 0 (MQ below (gQc 1 D cA ad st' (some (.int r))) args s 0 0 (gA 1 ad)) (F0 m 7 ls [])) {l1 : Int32} {st : gS} {H : Heap} {locs : List Loc} {ls : Array Slot} (hf : fX11_hasRelation_7 k7 l1 st = some (r, st')) (hH : gP0 1 D cA ad st H) (hS : va_S (gA 1 ad) s.heap H locs) (hl : lv_has ls 2 [(0, .ref (ad 0)), (1, .int l1)]) : W p l e (gRm 2) s m args below meth c H locs 0 0 (MQ below (gQc 1 D cA ad st' (some (.int r))) args s 0 0 (gA 1 ad)) (F0 m 7 ls []) := by
  obtain ⟨hx, hb, hml, hown, hts⟩ := id hC
  unfold fX11_hasRelation_7 at hf
  refine lv_iload_n (pc := 7) hx hb dX11_hasRelation_7 rfl (lv_at hl 1 rfl) ?_
  refine lv_if_lt (tgt := 41) (pc := 8) hx hb dX11_hasRelation_8 (by decide) (fun hc => ?_) (fun hc => ?_)
  · have hf := gif_p hc hf
    exact bX11_hasRelation_41 hC hret hlk hU hf hH hS (lv_sub hl [0, 1] rfl)
  · have hf := gif_n hc hf
    refine lv_aload_n (pc := 11) hx hb dX11_hasRelation_11 rfl (lv_at hl 0 rfl) ?_
    refine g_get (pc := 12) (v := .ref (ad 7)) hC hU hH gk1_0 g_cl11 15 (by decide) kf_X11_33 rfl dX11_hasRelation_12 ?_
    refine lv_iload_n (pc := 15) hx hb dX11_hasRelation_15 rfl (lv_at hl 1 rfl) ?_
    obtain ⟨h7_1, hf⟩ := gc_s hf
    refine g_iald (pc := 16) hC hU hH gk1_7 gn1_7 h7_1 dX11_hasRelation_16 ?_
    refine lv_bipush (v := 20) (pc := 17) hx hb dX11_hasRelation_17 (by decide) ?_
    refine lv_icmp_eq (tgt := 41) (pc := 19) hx hb dX11_hasRelation_19 (by decide) (fun hc => ?_) (fun hc => ?_)
    · have hf := gif_p hc hf
      exact bX11_hasRelation_41 hC hret hlk hU hf hH hS (lv_sub hl [0, 1] rfl)
    · have hf := gif_n hc hf
      refine lv_aload_n (pc := 22) hx hb dX11_hasRelation_22 rfl (lv_at hl 0 rfl) ?_
      refine g_get (pc := 23) (v := .ref (ad 7)) hC hU hH gk1_0 g_cl11 15 (by decide) kf_X11_33 rfl dX11_hasRelation_23 ?_
      refine lv_iload_n (pc := 26) hx hb dX11_hasRelation_26 rfl (lv_at hl 1 rfl) ?_
      obtain ⟨h7_2, hf⟩ := gc_s hf
      refine g_iald (pc := 27) hC hU hH gk1_7 gn1_7 h7_2 dX11_hasRelation_27 ?_
      obtain ⟨q7_1, hq7_1, hf⟩ := gbd hf
      refine g_callSi (pc := 28) (rest := []) hC hU hH hS hl.1 (mX11_tight  hq7_1) ky_X11_tight km_X11_278 ⟨Nat.le_of_ble_eq_true rfl, Nat.le_of_ble_eq_true rfl⟩ ⟨Nat.zero_le _, Nat.zero_le _⟩ rfl (Nat.le_of_ble_eq_true rfl) dX11_hasRelation_28 rfl (fun H locs hH hS => ?_)
      refine lv_iconst (v := 4) (pc := 31) hx hb dX11_hasRelation_31 (by decide) ?_
      refine lv_icmp_le (tgt := 41) (pc := 32) hx hb dX11_hasRelation_32 (by decide) (fun hc => ?_) (fun hc => ?_)
      · have hf := gif_p hc hf
        exact bX11_hasRelation_41 hC hret hlk hU hf hH hS (lv_sub hl [0, 1] rfl)
      · have hf := gif_n hc hf
        refine lv_iinc (v := l1 + (-1)) (lv' := [(1, .int (l1 + (-1))), (0, .ref (ad 0))]) (k := 1) (pc := 35) hx hb dX11_hasRelation_35 hl rfl rfl (by decide) rfl (fun ls hl => ?_)
        refine lv_goto (tgt := 7) (pc := 38) hx hb dX11_hasRelation_38 (by decide) ?_
        exact hk7 hf hH hS (lv_sub hl [1, 0] rfl)
def hX11_hasRelation_7   : Nat → Int32 → gS → Option (Int32 × gS)
  | 0 => fun _ _ => none
  | n + 1 => fun l1 st => fX11_hasRelation_7 (hX11_hasRelation_7  n) l1 st
set_option maxRecDepth 100000 in
set_option maxHeartbeats 4000000 in
theorem wX11_hasRelation_7  (hC : CallFix p m c cX11_hasRelation 2 s args lw_good RX11) (hret : meth.sig.returnType = (some .boolean)) (hlk : meth.locks = false) (hU : gU 1 D cA ad s)  {r : Int32} {st' : gS}  : ∀ (n : Nat) {l1 : Int32} {st : gS} {H : Heap} {locs : List Loc} {ls : Array Slot}, hX11_hasRelation_7  n l1 st = some (r, st') → gP0 1 D cA ad st H → va_S (gA 1 ad) s.heap H locs → lv_has ls 2 [(0, .ref (ad 0)), (1, .int l1)] → W p l e (gRm 2) s m args below meth c H locs 0 0 (MQ below (gQc 1 D cA ad st' (some (.int r))) args s 0 0 (gA 1 ad)) (F0 m 7 ls []) := by
  intro n
  induction n with
  | zero => intro l1 st H locs ls hf hH hS hl; cases hf
  | succ n ih =>
    intro l1 st H locs ls hf hH hS hl
    exact bX11_hasRelation_7  hC hret hlk hU (fun hf hH hS hl => ih hf hH hS hl) hf hH hS hl
def fX11_hasRelation    (st : gS) : Option (Int32 × gS) :=
  gl ((st.1 0 19) - 1) fun x6 => (hX11_hasRelation_7 FU x6 st)
set_option maxRecDepth 100000 in
set_option maxHeartbeats 4000000 in
theorem bX11_hasRelation_0  (hC : CallFix p m c cX11_hasRelation 2 s args lw_good RX11) (hret : meth.sig.returnType = (some .boolean)) (hlk : meth.locks = false) (hU : gU 1 D cA ad s)  {r : Int32} {st' : gS}   {st : gS} {H : Heap} {locs : List Loc} {ls : Array Slot} (hf : fX11_hasRelation st = some (r, st')) (hH : gP0 1 D cA ad st H) (hS : va_S (gA 1 ad) s.heap H locs) (hl : lv_has ls 2 [(0, .ref (ad 0))]) : W p l e (gRm 2) s m args below meth c H locs 0 0 (MQ below (gQc 1 D cA ad st' (some (.int r))) args s 0 0 (gA 1 ad)) (F0 m 0 ls []) := by
  obtain ⟨hx, hb, hml, hown, hts⟩ := id hC
  unfold fX11_hasRelation at hf
  refine lv_aload_n (pc := 0) hx hb dX11_hasRelation_0 rfl (lv_at hl 0 rfl) ?_
  refine g_get (pc := 1) (v := .int (st.1 0 19)) hC hU hH gk1_0 g_cl11 19 (by decide) kf_X11_275 rfl dX11_hasRelation_1 ?_
  refine lv_iconst (v := 1) (pc := 4) hx hb dX11_hasRelation_4 (by decide) ?_
  refine lv_isub (pc := 5) hx hb dX11_hasRelation_5 ?_
  refine lv_topi (pc := 6) (fun x6 ex6 => ?_)
  have hf := gl_s ex6 hf
  refine lv_istore_n (lv' := [(1, .int x6), (0, .ref (ad 0))]) (pc := 6) hx hb dX11_hasRelation_6 rfl hl (by decide) rfl (fun ls hl => ?_)
  exact wX11_hasRelation_7 hC hret hlk hU FU hf hH hS (lv_sub hl [1, 0] rfl)
set_option maxRecDepth 100000 in
set_option maxHeartbeats 4000000 in
theorem mX11_hasRelation {l : Launch} {D : va_G} {cA : Nat → ClassId} {ad : Nat → Nat}   {r : Int32} {st st' : gS} (hf : fX11_hasRelation  st = some (r, st')) : gM l yX11_hasRelation cX11_hasRelation 2 (some .boolean) 2 1 D cA ad st [.ref (ad 0)] (some (.int r)) st' := by
  refine g_met (by decide) (Nat.le_of_ble_eq_true rfl) ?_
  intro p e s m args below meth c ls hC hret hlk hU hH hl
  exact bX11_hasRelation_0 hC hret hlk hU hf hH va_S.rf hl
def fX11_readSlip_176    (st : gS) : Option (gS) :=
  if (st.1 0 2) = 0 then ((fX11_close 0 st).bind fun q176_1 => (some q176_1)) else (some st)
set_option maxRecDepth 100000 in
set_option maxHeartbeats 4000000 in
theorem bX11_readSlip_176  (hC : CallFix p m c cX11_readSlip 3 s args lw_good RX11) (hret : meth.sig.returnType = none) (hlk : meth.locks = false) (hU : gU 1 D cA ad s)  {st' : gS}   {st : gS} {H : Heap} {locs : List Loc} {ls : Array Slot} (hf : fX11_readSlip_176 st = some st') (hH : gP0 1 D cA ad st H) (hS : va_S (gA 1 ad) s.heap H locs) (hl : lv_has ls 3 [(0, .ref (ad 0))]) : W p l e (gRm 5) s m args below meth c H locs 0 0 (MQ below (gQc 1 D cA ad st' none) args s 0 0 (gA 1 ad)) (F0 m 176 ls []) := by
  obtain ⟨hx, hb, hml, hown, hts⟩ := id hC
  unfold fX11_readSlip_176 at hf
  refine lv_aload_n (pc := 176) hx hb dX11_readSlip_176 rfl (lv_at hl 0 rfl) ?_
  refine g_get (pc := 177) (v := .int (st.1 0 2)) hC hU hH gk1_0 g_cl11 2 (by decide) kf_X11_197 rfl dX11_readSlip_177 ?_
  refine lv_if_ne (tgt := 188) (pc := 180) hx hb dX11_readSlip_180 (by decide) (fun hc => ?_) (fun hc => ?_)
  · have hf := gif_n hc hf
    exact g_vret (pc := 188) hC hret hlk hH hS hf dX11_readSlip_188
  · have hf := gif_p hc hf
    refine lv_aload_n (pc := 183) hx hb dX11_readSlip_183 rfl (lv_at hl 0 rfl) ?_
    refine lv_iconst (v := 0) (pc := 184) hx hb dX11_readSlip_184 (by decide) ?_
    obtain ⟨q176_1, hq176_1, hf⟩ := gbd hf
    refine g_callVv (pc := 185) (rest := []) hC hU hH hS hl.1 gk1_0 rfl (by decide) (mX11_close  hq176_1) ky_X11_close km_X11_319 ⟨Nat.le_of_ble_eq_true rfl, Nat.le_of_ble_eq_true rfl⟩ ⟨Nat.zero_le _, Nat.zero_le _⟩ rfl (Nat.le_of_ble_eq_true rfl) dX11_readSlip_185 rfl (fun H locs hH hS => ?_)
    exact g_vret (pc := 188) hC hret hlk hH hS hf dX11_readSlip_188
def fX11_readSlip_157    (st : gS) : Option (gS) :=
  if (st.1 0 2) = 0 then ((fX11_hasBracket st).bind fun q157_1 => (if q157_1.1 = 0 then (fX11_readSlip_176 q157_1.2) else ((fX11_wrong 2 q157_1.2).bind fun q157_2 => (fX11_readSlip_176 q157_2)))) else (fX11_readSlip_176 st)
set_option maxRecDepth 100000 in
set_option maxHeartbeats 4000000 in
theorem bX11_readSlip_157  (hC : CallFix p m c cX11_readSlip 3 s args lw_good RX11) (hret : meth.sig.returnType = none) (hlk : meth.locks = false) (hU : gU 1 D cA ad s)  {st' : gS}   {st : gS} {H : Heap} {locs : List Loc} {ls : Array Slot} (hf : fX11_readSlip_157 st = some st') (hH : gP0 1 D cA ad st H) (hS : va_S (gA 1 ad) s.heap H locs) (hl : lv_has ls 3 [(0, .ref (ad 0))]) : W p l e (gRm 5) s m args below meth c H locs 0 0 (MQ below (gQc 1 D cA ad st' none) args s 0 0 (gA 1 ad)) (F0 m 157 ls []) := by
  obtain ⟨hx, hb, hml, hown, hts⟩ := id hC
  unfold fX11_readSlip_157 at hf
  refine lv_aload_n (pc := 157) hx hb dX11_readSlip_157 rfl (lv_at hl 0 rfl) ?_
  refine g_get (pc := 158) (v := .int (st.1 0 2)) hC hU hH gk1_0 g_cl11 2 (by decide) kf_X11_197 rfl dX11_readSlip_158 ?_
  refine lv_if_ne (tgt := 176) (pc := 161) hx hb dX11_readSlip_161 (by decide) (fun hc => ?_) (fun hc => ?_)
  · have hf := gif_n hc hf
    exact bX11_readSlip_176 hC hret hlk hU hf hH hS (lv_sub hl [0] rfl)
  · have hf := gif_p hc hf
    refine lv_aload_n (pc := 164) hx hb dX11_readSlip_164 rfl (lv_at hl 0 rfl) ?_
    obtain ⟨q157_1, hq157_1, hf⟩ := gbd hf
    refine g_callVi (pc := 165) (rest := []) hC hU hH hS hl.1 gk1_0 rfl (by decide) (mX11_hasBracket  hq157_1) ky_X11_hasBracket km_X11_316 ⟨Nat.le_of_ble_eq_true rfl, Nat.le_of_ble_eq_true rfl⟩ ⟨Nat.zero_le _, Nat.zero_le _⟩ rfl (Nat.le_of_ble_eq_true rfl) dX11_readSlip_165 rfl (fun H locs hH hS => ?_)
    refine lv_if_eq (tgt := 176) (pc := 168) hx hb dX11_readSlip_168 (by decide) (fun hc => ?_) (fun hc => ?_)
    · have hf := gif_p hc hf
      exact bX11_readSlip_176 hC hret hlk hU hf hH hS (lv_sub hl [0] rfl)
    · have hf := gif_n hc hf
      refine lv_aload_n (pc := 171) hx hb dX11_readSlip_171 rfl (lv_at hl 0 rfl) ?_
      refine lv_iconst (v := 2) (pc := 172) hx hb dX11_readSlip_172 (by decide) ?_
      obtain ⟨q157_2, hq157_2, hf⟩ := gbd hf
      refine g_callVv (pc := 173) (rest := []) hC hU hH hS hl.1 gk1_0 rfl (by decide) (mX11_wrong  hq157_2) ky_X11_wrong km_X11_246 ⟨Nat.le_of_ble_eq_true rfl, Nat.le_of_ble_eq_true rfl⟩ ⟨Nat.zero_le _, Nat.zero_le _⟩ rfl (Nat.le_of_ble_eq_true rfl) dX11_readSlip_173 rfl (fun H locs hH hS => ?_)
      exact bX11_readSlip_176 hC hret hlk hU hf hH hS (lv_sub hl [0] rfl)
def fX11_readSlip_113  (k30 : Int32 → gS → Option (gS)) (l1 : Int32) (l2 : Int32) (st : gS) : Option (gS) :=
  (fX11_tight l2 st).bind fun q113_1 => ((fX11_close q113_1.1 q113_1.2).bind fun q113_2 => (gc (gI (q113_2.1 0 19) 160) ((fX11_token (wi (wi q113_2 7 (q113_2.1 0 19).toNatClampNeg l2) 0 19 (((wi q113_2 7 (q113_2.1 0 19).toNatClampNeg l2).1 0 19) + 1))).bind fun q113_3 => ((fX11_unit q113_3).bind fun q113_4 => (k30 l1 q113_4)))))
set_option maxRecDepth 100000 in
set_option maxHeartbeats 4000000 in
theorem bX11_readSlip_113  (hC : CallFix p m c cX11_readSlip 3 s args lw_good RX11) (hret : meth.sig.returnType = none) (hlk : meth.locks = false) (hU : gU 1 D cA ad s)  {st' : gS} {k30 : Int32 → gS → Option (gS)} (hk30 : ∀ {l1 : Int32} {st : gS} {H : Heap} {locs : List Loc} {ls : Array Slot}, k30 l1 st = some st' → gP0 1 D cA ad st H → va_S (gA 1 ad) s.heap H locs → lv_has ls 3 [(0, .ref (ad 0)), (1, .int l1)] → W p l e (gRm 5) s m args below meth c H locs 0 0 (MQ below (gQc 1 D cA ad st' none) args s 0 0 (gA 1 ad)) (F0 m 30 ls [])) {l1 : Int32} {l2 : Int32} {st : gS} {H : Heap} {locs : List Loc} {ls : Array Slot} (hf : fX11_readSlip_113 k30 l1 l2 st = some st') (hH : gP0 1 D cA ad st H) (hS : va_S (gA 1 ad) s.heap H locs) (hl : lv_has ls 3 [(0, .ref (ad 0)), (1, .int l1), (2, .int l2)]) : W p l e (gRm 5) s m args below meth c H locs 0 0 (MQ below (gQc 1 D cA ad st' none) args s 0 0 (gA 1 ad)) (F0 m 113 ls []) := by
  obtain ⟨hx, hb, hml, hown, hts⟩ := id hC
  unfold fX11_readSlip_113 at hf
  refine lv_aload_n (pc := 113) hx hb dX11_readSlip_113 rfl (lv_at hl 0 rfl) ?_
  refine lv_iload_n (pc := 114) hx hb dX11_readSlip_114 rfl (lv_at hl 2 rfl) ?_
  obtain ⟨q113_1, hq113_1, hf⟩ := gbd hf
  refine g_callSi (pc := 115) (rest := [.ref (ad 0)]) hC hU hH hS hl.1 (mX11_tight  hq113_1) ky_X11_tight km_X11_278 ⟨Nat.le_of_ble_eq_true rfl, Nat.le_of_ble_eq_true rfl⟩ ⟨Nat.zero_le _, Nat.zero_le _⟩ rfl (Nat.le_of_ble_eq_true rfl) dX11_readSlip_115 rfl (fun H locs hH hS => ?_)
  obtain ⟨q113_2, hq113_2, hf⟩ := gbd hf
  refine g_callVv (pc := 118) (rest := []) hC hU hH hS hl.1 gk1_0 rfl (by decide) (mX11_close  hq113_2) ky_X11_close km_X11_319 ⟨Nat.le_of_ble_eq_true rfl, Nat.le_of_ble_eq_true rfl⟩ ⟨Nat.zero_le _, Nat.zero_le _⟩ rfl (Nat.le_of_ble_eq_true rfl) dX11_readSlip_118 rfl (fun H locs hH hS => ?_)
  refine lv_aload_n (pc := 121) hx hb dX11_readSlip_121 rfl (lv_at hl 0 rfl) ?_
  refine g_get (pc := 122) (v := .ref (ad 7)) hC hU hH gk1_0 g_cl11 15 (by decide) kf_X11_33 rfl dX11_readSlip_122 ?_
  refine lv_aload_n (pc := 125) hx hb dX11_readSlip_125 rfl (lv_at hl 0 rfl) ?_
  refine g_get (pc := 126) (v := .int (q113_2.1 0 19)) hC hU hH gk1_0 g_cl11 19 (by decide) kf_X11_275 rfl dX11_readSlip_126 ?_
  refine lv_iload_n (pc := 129) hx hb dX11_readSlip_129 rfl (lv_at hl 2 rfl) ?_
  obtain ⟨h113_1, hf⟩ := gc_s hf
  refine g_iast (pc := 130) hC hU hH hS gk1_7 gn1_7 h113_1 dX11_readSlip_130 (fun H locs hH hS => ?_)
  refine lv_aload_n (pc := 131) hx hb dX11_readSlip_131 rfl (lv_at hl 0 rfl) ?_
  refine lv_dup (pc := 132) hx hb dX11_readSlip_132 rfl ?_
  refine g_get (pc := 133) (v := .int ((wi q113_2 7 (q113_2.1 0 19).toNatClampNeg l2).1 0 19)) hC hU hH gk1_0 g_cl11 19 (by decide) kf_X11_275 rfl dX11_readSlip_133 ?_
  refine lv_iconst (v := 1) (pc := 136) hx hb dX11_readSlip_136 (by decide) ?_
  refine lv_iadd (pc := 137) hx hb dX11_readSlip_137 ?_
  refine g_puti (pc := 138) hC hU hH hS gk1_0 g_cl11 19 (by decide) kf_X11_275 rfl rfl rfl rfl dX11_readSlip_138 (fun H locs hH hS => ?_)
  refine lv_aload_n (pc := 141) hx hb dX11_readSlip_141 rfl (lv_at hl 0 rfl) ?_
  obtain ⟨q113_3, hq113_3, hf⟩ := gbd hf
  refine g_callVv (pc := 142) (rest := []) hC hU hH hS hl.1 gk1_0 rfl (by decide) (mX11_token  hq113_3) ky_X11_token km_X11_249 ⟨Nat.le_of_ble_eq_true rfl, Nat.le_of_ble_eq_true rfl⟩ ⟨Nat.zero_le _, Nat.zero_le _⟩ rfl (Nat.le_of_ble_eq_true rfl) dX11_readSlip_142 rfl (fun H locs hH hS => ?_)
  refine lv_aload_n (pc := 145) hx hb dX11_readSlip_145 rfl (lv_at hl 0 rfl) ?_
  obtain ⟨q113_4, hq113_4, hf⟩ := gbd hf
  refine g_callVv (pc := 146) (rest := []) hC hU hH hS hl.1 gk1_0 rfl (by decide) (mX11_unit  hq113_4) ky_X11_unit km_X11_310 ⟨Nat.le_of_ble_eq_true rfl, Nat.le_of_ble_eq_true rfl⟩ ⟨Nat.zero_le _, Nat.zero_le _⟩ rfl (Nat.le_of_ble_eq_true rfl) dX11_readSlip_146 rfl (fun H locs hH hS => ?_)
  refine lv_goto (tgt := 154) (pc := 149) hx hb dX11_readSlip_149 (by decide) ?_
  refine lv_goto (tgt := 30) (pc := 154) hx hb dX11_readSlip_154 (by decide) ?_
  exact hk30 hf hH hS (lv_sub hl [0, 1] rfl)
def fX11_readSlip_94  (k30 : Int32 → gS → Option (gS)) (l1 : Int32) (l2 : Int32) (st : gS) : Option (gS) :=
  if l2 = 0 then (k30 0 st) else ((fX11_tight l2 st).bind fun q94_1 => (if q94_1.1 = 4 then ((fX11_hasRelation q94_1.2).bind fun q94_2 => (if q94_2.1 = 0 then (fX11_readSlip_113 k30 l1 l2 q94_2.2) else (k30 0 q94_2.2))) else (fX11_readSlip_113 k30 l1 l2 q94_1.2)))
set_option maxRecDepth 100000 in
set_option maxHeartbeats 4000000 in
theorem bX11_readSlip_94  (hC : CallFix p m c cX11_readSlip 3 s args lw_good RX11) (hret : meth.sig.returnType = none) (hlk : meth.locks = false) (hU : gU 1 D cA ad s)  {st' : gS} {k30 : Int32 → gS → Option (gS)} (hk30 : ∀ {l1 : Int32} {st : gS} {H : Heap} {locs : List Loc} {ls : Array Slot}, k30 l1 st = some st' → gP0 1 D cA ad st H → va_S (gA 1 ad) s.heap H locs → lv_has ls 3 [(0, .ref (ad 0)), (1, .int l1)] → W p l e (gRm 5) s m args below meth c H locs 0 0 (MQ below (gQc 1 D cA ad st' none) args s 0 0 (gA 1 ad)) (F0 m 30 ls [])) {l1 : Int32} {l2 : Int32} {st : gS} {H : Heap} {locs : List Loc} {ls : Array Slot} (hf : fX11_readSlip_94 k30 l1 l2 st = some st') (hH : gP0 1 D cA ad st H) (hS : va_S (gA 1 ad) s.heap H locs) (hl : lv_has ls 3 [(0, .ref (ad 0)), (1, .int l1), (2, .int l2)]) : W p l e (gRm 5) s m args below meth c H locs 0 0 (MQ below (gQc 1 D cA ad st' none) args s 0 0 (gA 1 ad)) (F0 m 94 ls []) := by
  obtain ⟨hx, hb, hml, hown, hts⟩ := id hC
  unfold fX11_readSlip_94 at hf
  refine lv_iload_n (pc := 94) hx hb dX11_readSlip_94 rfl (lv_at hl 2 rfl) ?_
  refine lv_if_eq (tgt := 152) (pc := 95) hx hb dX11_readSlip_95 (by decide) (fun hc => ?_) (fun hc => ?_)
  · have hf := gif_p hc hf
    refine lv_iconst (v := 0) (pc := 152) hx hb dX11_readSlip_152 (by decide) ?_
    refine lv_istore_n (lv' := [(1, .int 0), (0, .ref (ad 0)), (2, .int l2)]) (pc := 153) hx hb dX11_readSlip_153 rfl hl (by decide) rfl (fun ls hl => ?_)
    refine lv_goto (tgt := 30) (pc := 154) hx hb dX11_readSlip_154 (by decide) ?_
    exact hk30 hf hH hS (lv_sub hl [1, 0] rfl)
  · have hf := gif_n hc hf
    refine lv_iload_n (pc := 98) hx hb dX11_readSlip_98 rfl (lv_at hl 2 rfl) ?_
    obtain ⟨q94_1, hq94_1, hf⟩ := gbd hf
    refine g_callSi (pc := 99) (rest := []) hC hU hH hS hl.1 (mX11_tight  hq94_1) ky_X11_tight km_X11_278 ⟨Nat.le_of_ble_eq_true rfl, Nat.le_of_ble_eq_true rfl⟩ ⟨Nat.zero_le _, Nat.zero_le _⟩ rfl (Nat.le_of_ble_eq_true rfl) dX11_readSlip_99 rfl (fun H locs hH hS => ?_)
    refine lv_iconst (v := 4) (pc := 102) hx hb dX11_readSlip_102 (by decide) ?_
    refine lv_icmp_ne (tgt := 113) (pc := 103) hx hb dX11_readSlip_103 (by decide) (fun hc => ?_) (fun hc => ?_)
    · have hf := gif_n hc hf
      exact bX11_readSlip_113 hC hret hlk hU hk30 hf hH hS (lv_sub hl [0, 1, 2] rfl)
    · have hf := gif_p hc hf
      refine lv_aload_n (pc := 106) hx hb dX11_readSlip_106 rfl (lv_at hl 0 rfl) ?_
      obtain ⟨q94_2, hq94_2, hf⟩ := gbd hf
      refine g_callVi (pc := 107) (rest := []) hC hU hH hS hl.1 gk1_0 rfl (by decide) (mX11_hasRelation  hq94_2) ky_X11_hasRelation km_X11_322 ⟨Nat.le_of_ble_eq_true rfl, Nat.le_of_ble_eq_true rfl⟩ ⟨Nat.zero_le _, Nat.zero_le _⟩ rfl (Nat.le_of_ble_eq_true rfl) dX11_readSlip_107 rfl (fun H locs hH hS => ?_)
      refine lv_if_ne (tgt := 152) (pc := 110) hx hb dX11_readSlip_110 (by decide) (fun hc => ?_) (fun hc => ?_)
      · have hf := gif_n hc hf
        refine lv_iconst (v := 0) (pc := 152) hx hb dX11_readSlip_152 (by decide) ?_
        refine lv_istore_n (lv' := [(1, .int 0), (0, .ref (ad 0)), (2, .int l2)]) (pc := 153) hx hb dX11_readSlip_153 rfl hl (by decide) rfl (fun ls hl => ?_)
        refine lv_goto (tgt := 30) (pc := 154) hx hb dX11_readSlip_154 (by decide) ?_
        exact hk30 hf hH hS (lv_sub hl [1, 0] rfl)
      · have hf := gif_p hc hf
        exact bX11_readSlip_113 hC hret hlk hU hk30 hf hH hS (lv_sub hl [0, 1, 2] rfl)
def fX11_readSlip_30  (k30 : Int32 → gS → Option (gS)) (l1 : Int32) (st : gS) : Option (gS) :=
  if l1 = 0 then (fX11_readSlip_157 st) else (if (st.1 0 2) = 0 then ((fX11_sign st).bind fun q30_1 => (if (q30_1.2.1 0 6) = 41 then ((fX11_hasBracket q30_1.2).bind fun q30_2 => (if q30_2.1 = 0 then (fX11_readSlip_94 k30 l1 q30_1.1 q30_2.2) else ((fX11_close 0 q30_2.2).bind fun q30_3 => ((fX11_token (wi (wi q30_3 0 19 ((q30_3.1 0 19) - 1)) 0 23 (((wi q30_3 0 19 ((q30_3.1 0 19) - 1)).1 0 23) - 1))).bind fun q30_4 => (k30 l1 q30_4))))) else (fX11_readSlip_94 k30 l1 q30_1.1 q30_1.2))) else (fX11_readSlip_157 st))
set_option maxRecDepth 100000 in
set_option maxHeartbeats 4000000 in
theorem bX11_readSlip_30  (hC : CallFix p m c cX11_readSlip 3 s args lw_good RX11) (hret : meth.sig.returnType = none) (hlk : meth.locks = false) (hU : gU 1 D cA ad s)  {st' : gS} {k30 : Int32 → gS → Option (gS)} (hk30 : ∀ {l1 : Int32} {st : gS} {H : Heap} {locs : List Loc} {ls : Array Slot}, k30 l1 st = some st' → gP0 1 D cA ad st H → va_S (gA 1 ad) s.heap H locs → lv_has ls 3 [(0, .ref (ad 0)), (1, .int l1)] → W p l e (gRm 5) s m args below meth c H locs 0 0 (MQ below (gQc 1 D cA ad st' none) args s 0 0 (gA 1 ad)) (F0 m 30 ls [])) {l1 : Int32} {st : gS} {H : Heap} {locs : List Loc} {ls : Array Slot} (hf : fX11_readSlip_30 k30 l1 st = some st') (hH : gP0 1 D cA ad st H) (hS : va_S (gA 1 ad) s.heap H locs) (hl : lv_has ls 3 [(0, .ref (ad 0)), (1, .int l1)]) : W p l e (gRm 5) s m args below meth c H locs 0 0 (MQ below (gQc 1 D cA ad st' none) args s 0 0 (gA 1 ad)) (F0 m 30 ls []) := by
  obtain ⟨hx, hb, hml, hown, hts⟩ := id hC
  unfold fX11_readSlip_30 at hf
  refine lv_iload_n (pc := 30) hx hb dX11_readSlip_30 rfl (lv_at hl 1 rfl) ?_
  refine lv_if_eq (tgt := 157) (pc := 31) hx hb dX11_readSlip_31 (by decide) (fun hc => ?_) (fun hc => ?_)
  · have hf := gif_p hc hf
    exact bX11_readSlip_157 hC hret hlk hU hf hH hS (lv_sub hl [0] rfl)
  · have hf := gif_n hc hf
    refine lv_aload_n (pc := 34) hx hb dX11_readSlip_34 rfl (lv_at hl 0 rfl) ?_
    refine g_get (pc := 35) (v := .int (st.1 0 2)) hC hU hH gk1_0 g_cl11 2 (by decide) kf_X11_197 rfl dX11_readSlip_35 ?_
    refine lv_if_ne (tgt := 157) (pc := 38) hx hb dX11_readSlip_38 (by decide) (fun hc => ?_) (fun hc => ?_)
    · have hf := gif_n hc hf
      exact bX11_readSlip_157 hC hret hlk hU hf hH hS (lv_sub hl [0] rfl)
    · have hf := gif_p hc hf
      refine lv_aload_n (pc := 41) hx hb dX11_readSlip_41 rfl (lv_at hl 0 rfl) ?_
      obtain ⟨q30_1, hq30_1, hf⟩ := gbd hf
      refine g_callVi (pc := 42) (rest := []) hC hU hH hS hl.1 gk1_0 rfl (by decide) (mX11_sign  hq30_1) ky_X11_sign km_X11_313 ⟨Nat.le_of_ble_eq_true rfl, Nat.le_of_ble_eq_true rfl⟩ ⟨Nat.zero_le _, Nat.zero_le _⟩ rfl (Nat.le_of_ble_eq_true rfl) dX11_readSlip_42 rfl (fun H locs hH hS => ?_)
      refine lv_istore_n (lv' := [(2, .int q30_1.1), (0, .ref (ad 0)), (1, .int l1)]) (pc := 45) hx hb dX11_readSlip_45 rfl hl (by decide) rfl (fun ls hl => ?_)
      refine lv_aload_n (pc := 46) hx hb dX11_readSlip_46 rfl (lv_at hl 1 rfl) ?_
      refine g_get (pc := 47) (v := .int (q30_1.2.1 0 6)) hC hU hH gk1_0 g_cl11 6 (by decide) kf_X11_184 rfl dX11_readSlip_47 ?_
      refine lv_bipush (v := 41) (pc := 50) hx hb dX11_readSlip_50 (by decide) ?_
      refine lv_icmp_ne (tgt := 94) (pc := 52) hx hb dX11_readSlip_52 (by decide) (fun hc => ?_) (fun hc => ?_)
      · have hf := gif_n hc hf
        exact bX11_readSlip_94 hC hret hlk hU hk30 hf hH hS (lv_sub hl [1, 2, 0] rfl)
      · have hf := gif_p hc hf
        refine lv_aload_n (pc := 55) hx hb dX11_readSlip_55 rfl (lv_at hl 1 rfl) ?_
        obtain ⟨q30_2, hq30_2, hf⟩ := gbd hf
        refine g_callVi (pc := 56) (rest := []) hC hU hH hS hl.1 gk1_0 rfl (by decide) (mX11_hasBracket  hq30_2) ky_X11_hasBracket km_X11_316 ⟨Nat.le_of_ble_eq_true rfl, Nat.le_of_ble_eq_true rfl⟩ ⟨Nat.zero_le _, Nat.zero_le _⟩ rfl (Nat.le_of_ble_eq_true rfl) dX11_readSlip_56 rfl (fun H locs hH hS => ?_)
        refine lv_if_eq (tgt := 94) (pc := 59) hx hb dX11_readSlip_59 (by decide) (fun hc => ?_) (fun hc => ?_)
        · have hf := gif_p hc hf
          exact bX11_readSlip_94 hC hret hlk hU hk30 hf hH hS (lv_sub hl [1, 2, 0] rfl)
        · have hf := gif_n hc hf
          refine lv_aload_n (pc := 62) hx hb dX11_readSlip_62 rfl (lv_at hl 1 rfl) ?_
          refine lv_iconst (v := 0) (pc := 63) hx hb dX11_readSlip_63 (by decide) ?_
          obtain ⟨q30_3, hq30_3, hf⟩ := gbd hf
          refine g_callVv (pc := 64) (rest := []) hC hU hH hS hl.1 gk1_0 rfl (by decide) (mX11_close  hq30_3) ky_X11_close km_X11_319 ⟨Nat.le_of_ble_eq_true rfl, Nat.le_of_ble_eq_true rfl⟩ ⟨Nat.zero_le _, Nat.zero_le _⟩ rfl (Nat.le_of_ble_eq_true rfl) dX11_readSlip_64 rfl (fun H locs hH hS => ?_)
          refine lv_aload_n (pc := 67) hx hb dX11_readSlip_67 rfl (lv_at hl 1 rfl) ?_
          refine lv_dup (pc := 68) hx hb dX11_readSlip_68 rfl ?_
          refine g_get (pc := 69) (v := .int (q30_3.1 0 19)) hC hU hH gk1_0 g_cl11 19 (by decide) kf_X11_275 rfl dX11_readSlip_69 ?_
          refine lv_iconst (v := 1) (pc := 72) hx hb dX11_readSlip_72 (by decide) ?_
          refine lv_isub (pc := 73) hx hb dX11_readSlip_73 ?_
          refine g_puti (pc := 74) hC hU hH hS gk1_0 g_cl11 19 (by decide) kf_X11_275 rfl rfl rfl rfl dX11_readSlip_74 (fun H locs hH hS => ?_)
          refine lv_aload_n (pc := 77) hx hb dX11_readSlip_77 rfl (lv_at hl 1 rfl) ?_
          refine lv_dup (pc := 78) hx hb dX11_readSlip_78 rfl ?_
          refine g_get (pc := 79) (v := .int ((wi q30_3 0 19 ((q30_3.1 0 19) - 1)).1 0 23)) hC hU hH gk1_0 g_cl11 23 (by decide) kf_X11_285 rfl dX11_readSlip_79 ?_
          refine lv_iconst (v := 1) (pc := 82) hx hb dX11_readSlip_82 (by decide) ?_
          refine lv_isub (pc := 83) hx hb dX11_readSlip_83 ?_
          refine g_puti (pc := 84) hC hU hH hS gk1_0 g_cl11 23 (by decide) kf_X11_285 rfl rfl rfl rfl dX11_readSlip_84 (fun H locs hH hS => ?_)
          refine lv_aload_n (pc := 87) hx hb dX11_readSlip_87 rfl (lv_at hl 1 rfl) ?_
          obtain ⟨q30_4, hq30_4, hf⟩ := gbd hf
          refine g_callVv (pc := 88) (rest := []) hC hU hH hS hl.1 gk1_0 rfl (by decide) (mX11_token  hq30_4) ky_X11_token km_X11_249 ⟨Nat.le_of_ble_eq_true rfl, Nat.le_of_ble_eq_true rfl⟩ ⟨Nat.zero_le _, Nat.zero_le _⟩ rfl (Nat.le_of_ble_eq_true rfl) dX11_readSlip_88 rfl (fun H locs hH hS => ?_)
          refine lv_goto (tgt := 154) (pc := 91) hx hb dX11_readSlip_91 (by decide) ?_
          refine lv_goto (tgt := 30) (pc := 154) hx hb dX11_readSlip_154 (by decide) ?_
          exact hk30 hf hH hS (lv_sub hl [1, 2] rfl)
def hX11_readSlip_30   : Nat → Int32 → gS → Option (gS)
  | 0 => fun _ _ => none
  | n + 1 => fun l1 st => fX11_readSlip_30 (hX11_readSlip_30  n) l1 st
set_option maxRecDepth 100000 in
set_option maxHeartbeats 4000000 in
theorem wX11_readSlip_30  (hC : CallFix p m c cX11_readSlip 3 s args lw_good RX11) (hret : meth.sig.returnType = none) (hlk : meth.locks = false) (hU : gU 1 D cA ad s)  {st' : gS}  : ∀ (n : Nat) {l1 : Int32} {st : gS} {H : Heap} {locs : List Loc} {ls : Array Slot}, hX11_readSlip_30  n l1 st = some st' → gP0 1 D cA ad st H → va_S (gA 1 ad) s.heap H locs → lv_has ls 3 [(0, .ref (ad 0)), (1, .int l1)] → W p l e (gRm 5) s m args below meth c H locs 0 0 (MQ below (gQc 1 D cA ad st' none) args s 0 0 (gA 1 ad)) (F0 m 30 ls []) := by
  intro n
  induction n with
  | zero => intro l1 st H locs ls hf hH hS hl; cases hf
  | succ n ih =>
    intro l1 st H locs ls hf hH hS hl
    exact bX11_readSlip_30  hC hret hlk hU (fun hf hH hS hl => ih hf hH hS hl) hf hH hS hl
def fX11_readSlip    (st : gS) : Option (gS) :=
  (fX11_token st).bind fun q0_1 => ((fX11_unit (wi (wi (wi (wi q0_1 0 17 0) 0 19 0) 0 23 0) 0 22 0)).bind fun q0_2 => (hX11_readSlip_30 FU 1 q0_2))
set_option maxRecDepth 100000 in
set_option maxHeartbeats 4000000 in
theorem bX11_readSlip_0  (hC : CallFix p m c cX11_readSlip 3 s args lw_good RX11) (hret : meth.sig.returnType = none) (hlk : meth.locks = false) (hU : gU 1 D cA ad s)  {st' : gS}   {st : gS} {H : Heap} {locs : List Loc} {ls : Array Slot} (hf : fX11_readSlip st = some st') (hH : gP0 1 D cA ad st H) (hS : va_S (gA 1 ad) s.heap H locs) (hl : lv_has ls 3 [(0, .ref (ad 0))]) : W p l e (gRm 5) s m args below meth c H locs 0 0 (MQ below (gQc 1 D cA ad st' none) args s 0 0 (gA 1 ad)) (F0 m 0 ls []) := by
  obtain ⟨hx, hb, hml, hown, hts⟩ := id hC
  unfold fX11_readSlip at hf
  refine lv_aload_n (pc := 0) hx hb dX11_readSlip_0 rfl (lv_at hl 0 rfl) ?_
  obtain ⟨q0_1, hq0_1, hf⟩ := gbd hf
  refine g_callVv (pc := 1) (rest := []) hC hU hH hS hl.1 gk1_0 rfl (by decide) (mX11_token  hq0_1) ky_X11_token km_X11_249 ⟨Nat.le_of_ble_eq_true rfl, Nat.le_of_ble_eq_true rfl⟩ ⟨Nat.zero_le _, Nat.zero_le _⟩ rfl (Nat.le_of_ble_eq_true rfl) dX11_readSlip_1 rfl (fun H locs hH hS => ?_)
  refine lv_aload_n (pc := 4) hx hb dX11_readSlip_4 rfl (lv_at hl 0 rfl) ?_
  refine lv_iconst (v := 0) (pc := 5) hx hb dX11_readSlip_5 (by decide) ?_
  refine g_puti (pc := 6) hC hU hH hS gk1_0 g_cl11 17 (by decide) kf_X11_272 rfl rfl rfl rfl dX11_readSlip_6 (fun H locs hH hS => ?_)
  refine lv_aload_n (pc := 9) hx hb dX11_readSlip_9 rfl (lv_at hl 0 rfl) ?_
  refine lv_iconst (v := 0) (pc := 10) hx hb dX11_readSlip_10 (by decide) ?_
  refine g_puti (pc := 11) hC hU hH hS gk1_0 g_cl11 19 (by decide) kf_X11_275 rfl rfl rfl rfl dX11_readSlip_11 (fun H locs hH hS => ?_)
  refine lv_aload_n (pc := 14) hx hb dX11_readSlip_14 rfl (lv_at hl 0 rfl) ?_
  refine lv_iconst (v := 0) (pc := 15) hx hb dX11_readSlip_15 (by decide) ?_
  refine g_puti (pc := 16) hC hU hH hS gk1_0 g_cl11 23 (by decide) kf_X11_285 rfl rfl rfl rfl dX11_readSlip_16 (fun H locs hH hS => ?_)
  refine lv_aload_n (pc := 19) hx hb dX11_readSlip_19 rfl (lv_at hl 0 rfl) ?_
  refine lv_iconst (v := 0) (pc := 20) hx hb dX11_readSlip_20 (by decide) ?_
  refine g_puti (pc := 21) hC hU hH hS gk1_0 g_cl11 22 (by decide) kf_X11_291 rfl rfl rfl rfl dX11_readSlip_21 (fun H locs hH hS => ?_)
  refine lv_aload_n (pc := 24) hx hb dX11_readSlip_24 rfl (lv_at hl 0 rfl) ?_
  obtain ⟨q0_2, hq0_2, hf⟩ := gbd hf
  refine g_callVv (pc := 25) (rest := []) hC hU hH hS hl.1 gk1_0 rfl (by decide) (mX11_unit  hq0_2) ky_X11_unit km_X11_310 ⟨Nat.le_of_ble_eq_true rfl, Nat.le_of_ble_eq_true rfl⟩ ⟨Nat.zero_le _, Nat.zero_le _⟩ rfl (Nat.le_of_ble_eq_true rfl) dX11_readSlip_25 rfl (fun H locs hH hS => ?_)
  refine lv_iconst (v := 1) (pc := 28) hx hb dX11_readSlip_28 (by decide) ?_
  refine lv_istore_n (lv' := [(1, .int 1), (0, .ref (ad 0))]) (pc := 29) hx hb dX11_readSlip_29 rfl hl (by decide) rfl (fun ls hl => ?_)
  exact wX11_readSlip_30 hC hret hlk hU FU hf hH hS (lv_sub hl [1, 0] rfl)
set_option maxRecDepth 100000 in
set_option maxHeartbeats 4000000 in
theorem mX11_readSlip {l : Launch} {D : va_G} {cA : Nat → ClassId} {ad : Nat → Nat}   {st st' : gS} (hf : fX11_readSlip  st = some st') : gM l yX11_readSlip cX11_readSlip 3 none 5 1 D cA ad st [.ref (ad 0)] none st' := by
  refine g_met (by decide) (Nat.le_of_ble_eq_true rfl) ?_
  intro p e s m args below meth c ls hC hret hlk hU hH hl
  exact bX11_readSlip_0 hC hret hlk hU hf hH va_S.rf hl
def fX11_readLine_228    (st : gS) : Option (gS) :=
  if (st.1 0 2) = 0 then ((fX11_token st).bind fun q228_1 => (some q228_1)) else (some st)
set_option maxRecDepth 100000 in
set_option maxHeartbeats 4000000 in
theorem bX11_readLine_228  (hC : CallFix p m c cX11_readLine 1 s args lw_good RX11) (hret : meth.sig.returnType = none) (hlk : meth.locks = false) (hU : gU 1 D cA ad s)  {st' : gS}   {st : gS} {H : Heap} {locs : List Loc} {ls : Array Slot} (hf : fX11_readLine_228 st = some st') (hH : gP0 1 D cA ad st H) (hS : va_S (gA 1 ad) s.heap H locs) (hl : lv_has ls 1 [(0, .ref (ad 0))]) : W p l e (gRm 6) s m args below meth c H locs 0 0 (MQ below (gQc 1 D cA ad st' none) args s 0 0 (gA 1 ad)) (F0 m 228 ls []) := by
  obtain ⟨hx, hb, hml, hown, hts⟩ := id hC
  unfold fX11_readLine_228 at hf
  refine lv_aload_n (pc := 228) hx hb dX11_readLine_228 rfl (lv_at hl 0 rfl) ?_
  refine g_get (pc := 229) (v := .int (st.1 0 2)) hC hU hH gk1_0 g_cl11 2 (by decide) kf_X11_197 rfl dX11_readLine_229 ?_
  refine lv_if_ne (tgt := 239) (pc := 232) hx hb dX11_readLine_232 (by decide) (fun hc => ?_) (fun hc => ?_)
  · have hf := gif_n hc hf
    exact g_vret (pc := 239) hC hret hlk hH hS hf dX11_readLine_239
  · have hf := gif_p hc hf
    refine lv_aload_n (pc := 235) hx hb dX11_readLine_235 rfl (lv_at hl 0 rfl) ?_
    obtain ⟨q228_1, hq228_1, hf⟩ := gbd hf
    refine g_callVv (pc := 236) (rest := []) hC hU hH hS hl.1 gk1_0 rfl (by decide) (mX11_token  hq228_1) ky_X11_token km_X11_249 ⟨Nat.le_of_ble_eq_true rfl, Nat.le_of_ble_eq_true rfl⟩ ⟨Nat.zero_le _, Nat.zero_le _⟩ rfl (Nat.le_of_ble_eq_true rfl) dX11_readLine_236 rfl (fun H locs hH hS => ?_)
    exact g_vret (pc := 239) hC hret hlk hH hS hf dX11_readLine_239
def fX11_readLine_207    (st : gS) : Option (gS) :=
  if (st.1 0 2) = 0 then (if (st.1 0 6) = 59 then (fX11_readLine_228 st) else ((fX11_wrong 2 st).bind fun q207_1 => (fX11_readLine_228 q207_1))) else (fX11_readLine_228 st)
set_option maxRecDepth 100000 in
set_option maxHeartbeats 4000000 in
theorem bX11_readLine_207  (hC : CallFix p m c cX11_readLine 1 s args lw_good RX11) (hret : meth.sig.returnType = none) (hlk : meth.locks = false) (hU : gU 1 D cA ad s)  {st' : gS}   {st : gS} {H : Heap} {locs : List Loc} {ls : Array Slot} (hf : fX11_readLine_207 st = some st') (hH : gP0 1 D cA ad st H) (hS : va_S (gA 1 ad) s.heap H locs) (hl : lv_has ls 1 [(0, .ref (ad 0))]) : W p l e (gRm 6) s m args below meth c H locs 0 0 (MQ below (gQc 1 D cA ad st' none) args s 0 0 (gA 1 ad)) (F0 m 207 ls []) := by
  obtain ⟨hx, hb, hml, hown, hts⟩ := id hC
  unfold fX11_readLine_207 at hf
  refine lv_aload_n (pc := 207) hx hb dX11_readLine_207 rfl (lv_at hl 0 rfl) ?_
  refine g_get (pc := 208) (v := .int (st.1 0 2)) hC hU hH gk1_0 g_cl11 2 (by decide) kf_X11_197 rfl dX11_readLine_208 ?_
  refine lv_if_ne (tgt := 228) (pc := 211) hx hb dX11_readLine_211 (by decide) (fun hc => ?_) (fun hc => ?_)
  · have hf := gif_n hc hf
    exact bX11_readLine_228 hC hret hlk hU hf hH hS (lv_sub hl [0] rfl)
  · have hf := gif_p hc hf
    refine lv_aload_n (pc := 214) hx hb dX11_readLine_214 rfl (lv_at hl 0 rfl) ?_
    refine g_get (pc := 215) (v := .int (st.1 0 6)) hC hU hH gk1_0 g_cl11 6 (by decide) kf_X11_184 rfl dX11_readLine_215 ?_
    refine lv_bipush (v := 59) (pc := 218) hx hb dX11_readLine_218 (by decide) ?_
    refine lv_icmp_eq (tgt := 228) (pc := 220) hx hb dX11_readLine_220 (by decide) (fun hc => ?_) (fun hc => ?_)
    · have hf := gif_p hc hf
      exact bX11_readLine_228 hC hret hlk hU hf hH hS (lv_sub hl [0] rfl)
    · have hf := gif_n hc hf
      refine lv_aload_n (pc := 223) hx hb dX11_readLine_223 rfl (lv_at hl 0 rfl) ?_
      refine lv_iconst (v := 2) (pc := 224) hx hb dX11_readLine_224 (by decide) ?_
      obtain ⟨q207_1, hq207_1, hf⟩ := gbd hf
      refine g_callVv (pc := 225) (rest := []) hC hU hH hS hl.1 gk1_0 rfl (by decide) (mX11_wrong  hq207_1) ky_X11_wrong km_X11_246 ⟨Nat.le_of_ble_eq_true rfl, Nat.le_of_ble_eq_true rfl⟩ ⟨Nat.zero_le _, Nat.zero_le _⟩ rfl (Nat.le_of_ble_eq_true rfl) dX11_readLine_225 rfl (fun H locs hH hS => ?_)
      exact bX11_readLine_228 hC hret hlk hU hf hH hS (lv_sub hl [0] rfl)
def fX11_readLine_202    (st : gS) : Option (gS) :=
  (fX11_wrong 2 st).bind fun q202_1 => (fX11_readLine_207 q202_1)
set_option maxRecDepth 100000 in
set_option maxHeartbeats 4000000 in
theorem bX11_readLine_202  (hC : CallFix p m c cX11_readLine 1 s args lw_good RX11) (hret : meth.sig.returnType = none) (hlk : meth.locks = false) (hU : gU 1 D cA ad s)  {st' : gS}   {st : gS} {H : Heap} {locs : List Loc} {ls : Array Slot} (hf : fX11_readLine_202 st = some st') (hH : gP0 1 D cA ad st H) (hS : va_S (gA 1 ad) s.heap H locs) (hl : lv_has ls 1 [(0, .ref (ad 0))]) : W p l e (gRm 6) s m args below meth c H locs 0 0 (MQ below (gQc 1 D cA ad st' none) args s 0 0 (gA 1 ad)) (F0 m 202 ls []) := by
  obtain ⟨hx, hb, hml, hown, hts⟩ := id hC
  unfold fX11_readLine_202 at hf
  refine lv_aload_n (pc := 202) hx hb dX11_readLine_202 rfl (lv_at hl 0 rfl) ?_
  refine lv_iconst (v := 2) (pc := 203) hx hb dX11_readLine_203 (by decide) ?_
  obtain ⟨q202_1, hq202_1, hf⟩ := gbd hf
  refine g_callVv (pc := 204) (rest := []) hC hU hH hS hl.1 gk1_0 rfl (by decide) (mX11_wrong  hq202_1) ky_X11_wrong km_X11_246 ⟨Nat.le_of_ble_eq_true rfl, Nat.le_of_ble_eq_true rfl⟩ ⟨Nat.zero_le _, Nat.zero_le _⟩ rfl (Nat.le_of_ble_eq_true rfl) dX11_readLine_204 rfl (fun H locs hH hS => ?_)
  exact bX11_readLine_207 hC hret hlk hU hf hH hS (lv_sub hl [0] rfl)
def fX11_readLine_162    (st : gS) : Option (gS) :=
  (fX11_isWord 1685217655 st).bind fun q162_1 => (if q162_1.1 = 0 then (fX11_readLine_202 q162_1.2) else (if (q162_1.2.1 0 54) = 0 then ((fX11_told 1685217655 0 999 (wi q162_1.2 0 54 1)).bind fun q162_2 => (fX11_readLine_207 (wi q162_2.2 0 47 q162_2.1))) else (fX11_readLine_202 q162_1.2)))
set_option maxRecDepth 100000 in
set_option maxHeartbeats 4000000 in
theorem bX11_readLine_162  (hC : CallFix p m c cX11_readLine 1 s args lw_good RX11) (hret : meth.sig.returnType = none) (hlk : meth.locks = false) (hU : gU 1 D cA ad s)  {st' : gS}   {st : gS} {H : Heap} {locs : List Loc} {ls : Array Slot} (hf : fX11_readLine_162 st = some st') (hH : gP0 1 D cA ad st H) (hS : va_S (gA 1 ad) s.heap H locs) (hl : lv_has ls 1 [(0, .ref (ad 0))]) : W p l e (gRm 6) s m args below meth c H locs 0 0 (MQ below (gQc 1 D cA ad st' none) args s 0 0 (gA 1 ad)) (F0 m 162 ls []) := by
  obtain ⟨hx, hb, hml, hown, hts⟩ := id hC
  unfold fX11_readLine_162 at hf
  refine lv_aload_n (pc := 162) hx hb dX11_readLine_162 rfl (lv_at hl 0 rfl) ?_
  refine lv_ldc2 (pc := 163) hx hb hown (hts _ kc_X11_224) dX11_readLine_163 ?_
  obtain ⟨q162_1, hq162_1, hf⟩ := gbd hf
  refine g_callVi (pc := 166) (rest := []) hC hU hH hS hl.1 gk1_0 rfl (by decide) (mX11_isWord  hq162_1) ky_X11_isWord km_X11_242 ⟨Nat.le_of_ble_eq_true rfl, Nat.le_of_ble_eq_true rfl⟩ ⟨Nat.zero_le _, Nat.zero_le _⟩ rfl (Nat.le_of_ble_eq_true rfl) dX11_readLine_166 rfl (fun H locs hH hS => ?_)
  refine lv_if_eq (tgt := 202) (pc := 169) hx hb dX11_readLine_169 (by decide) (fun hc => ?_) (fun hc => ?_)
  · have hf := gif_p hc hf
    exact bX11_readLine_202 hC hret hlk hU hf hH hS (lv_sub hl [0] rfl)
  · have hf := gif_n hc hf
    refine lv_aload_n (pc := 172) hx hb dX11_readLine_172 rfl (lv_at hl 0 rfl) ?_
    refine g_get (pc := 173) (v := .int (q162_1.2.1 0 54)) hC hU hH gk1_0 g_cl11 54 (by decide) kf_X11_380 rfl dX11_readLine_173 ?_
    refine lv_if_ne (tgt := 202) (pc := 176) hx hb dX11_readLine_176 (by decide) (fun hc => ?_) (fun hc => ?_)
    · have hf := gif_n hc hf
      exact bX11_readLine_202 hC hret hlk hU hf hH hS (lv_sub hl [0] rfl)
    · have hf := gif_p hc hf
      refine lv_aload_n (pc := 179) hx hb dX11_readLine_179 rfl (lv_at hl 0 rfl) ?_
      refine lv_iconst (v := 1) (pc := 180) hx hb dX11_readLine_180 (by decide) ?_
      refine g_puti (pc := 181) hC hU hH hS gk1_0 g_cl11 54 (by decide) kf_X11_380 rfl rfl rfl rfl dX11_readLine_181 (fun H locs hH hS => ?_)
      refine lv_aload_n (pc := 184) hx hb dX11_readLine_184 rfl (lv_at hl 0 rfl) ?_
      refine lv_aload_n (pc := 185) hx hb dX11_readLine_185 rfl (lv_at hl 0 rfl) ?_
      refine lv_ldc2 (pc := 186) hx hb hown (hts _ kc_X11_224) dX11_readLine_186 ?_
      refine lv_iconst (v := 0) (pc := 189) hx hb dX11_readLine_189 (by decide) ?_
      refine lv_sipush (v := 999) (pc := 190) hx hb dX11_readLine_190 (by decide) ?_
      obtain ⟨q162_2, hq162_2, hf⟩ := gbd hf
      refine g_callVi (pc := 193) (rest := [.ref (ad 0)]) hC hU hH hS hl.1 gk1_0 rfl (by decide) (mX11_told  hq162_2) ky_X11_told km_X11_342 ⟨Nat.le_of_ble_eq_true rfl, Nat.le_of_ble_eq_true rfl⟩ ⟨Nat.zero_le _, Nat.zero_le _⟩ rfl (Nat.le_of_ble_eq_true rfl) dX11_readLine_193 rfl (fun H locs hH hS => ?_)
      refine g_puti (pc := 196) hC hU hH hS gk1_0 g_cl11 47 (by decide) kf_X11_383 rfl rfl rfl rfl dX11_readLine_196 (fun H locs hH hS => ?_)
      refine lv_goto (tgt := 207) (pc := 199) hx hb dX11_readLine_199 (by decide) ?_
      exact bX11_readLine_207 hC hret hlk hU hf hH hS (lv_sub hl [0] rfl)
def fX11_readLine_123    (st : gS) : Option (gS) :=
  (fX11_isWord 1668248164 st).bind fun q123_1 => (if q123_1.1 = 0 then (fX11_readLine_162 q123_1.2) else (if (q123_1.2.1 0 53) = 0 then ((fX11_told 1668248164 1 99 (wi q123_1.2 0 53 1)).bind fun q123_2 => (fX11_readLine_207 (wi q123_2.2 0 46 q123_2.1))) else (fX11_readLine_162 q123_1.2)))
set_option maxRecDepth 100000 in
set_option maxHeartbeats 4000000 in
theorem bX11_readLine_123  (hC : CallFix p m c cX11_readLine 1 s args lw_good RX11) (hret : meth.sig.returnType = none) (hlk : meth.locks = false) (hU : gU 1 D cA ad s)  {st' : gS}   {st : gS} {H : Heap} {locs : List Loc} {ls : Array Slot} (hf : fX11_readLine_123 st = some st') (hH : gP0 1 D cA ad st H) (hS : va_S (gA 1 ad) s.heap H locs) (hl : lv_has ls 1 [(0, .ref (ad 0))]) : W p l e (gRm 6) s m args below meth c H locs 0 0 (MQ below (gQc 1 D cA ad st' none) args s 0 0 (gA 1 ad)) (F0 m 123 ls []) := by
  obtain ⟨hx, hb, hml, hown, hts⟩ := id hC
  unfold fX11_readLine_123 at hf
  refine lv_aload_n (pc := 123) hx hb dX11_readLine_123 rfl (lv_at hl 0 rfl) ?_
  refine lv_ldc2 (pc := 124) hx hb hown (hts _ kc_X11_222) dX11_readLine_124 ?_
  obtain ⟨q123_1, hq123_1, hf⟩ := gbd hf
  refine g_callVi (pc := 127) (rest := []) hC hU hH hS hl.1 gk1_0 rfl (by decide) (mX11_isWord  hq123_1) ky_X11_isWord km_X11_242 ⟨Nat.le_of_ble_eq_true rfl, Nat.le_of_ble_eq_true rfl⟩ ⟨Nat.zero_le _, Nat.zero_le _⟩ rfl (Nat.le_of_ble_eq_true rfl) dX11_readLine_127 rfl (fun H locs hH hS => ?_)
  refine lv_if_eq (tgt := 162) (pc := 130) hx hb dX11_readLine_130 (by decide) (fun hc => ?_) (fun hc => ?_)
  · have hf := gif_p hc hf
    exact bX11_readLine_162 hC hret hlk hU hf hH hS (lv_sub hl [0] rfl)
  · have hf := gif_n hc hf
    refine lv_aload_n (pc := 133) hx hb dX11_readLine_133 rfl (lv_at hl 0 rfl) ?_
    refine g_get (pc := 134) (v := .int (q123_1.2.1 0 53)) hC hU hH gk1_0 g_cl11 53 (by decide) kf_X11_374 rfl dX11_readLine_134 ?_
    refine lv_if_ne (tgt := 162) (pc := 137) hx hb dX11_readLine_137 (by decide) (fun hc => ?_) (fun hc => ?_)
    · have hf := gif_n hc hf
      exact bX11_readLine_162 hC hret hlk hU hf hH hS (lv_sub hl [0] rfl)
    · have hf := gif_p hc hf
      refine lv_aload_n (pc := 140) hx hb dX11_readLine_140 rfl (lv_at hl 0 rfl) ?_
      refine lv_iconst (v := 1) (pc := 141) hx hb dX11_readLine_141 (by decide) ?_
      refine g_puti (pc := 142) hC hU hH hS gk1_0 g_cl11 53 (by decide) kf_X11_374 rfl rfl rfl rfl dX11_readLine_142 (fun H locs hH hS => ?_)
      refine lv_aload_n (pc := 145) hx hb dX11_readLine_145 rfl (lv_at hl 0 rfl) ?_
      refine lv_aload_n (pc := 146) hx hb dX11_readLine_146 rfl (lv_at hl 0 rfl) ?_
      refine lv_ldc2 (pc := 147) hx hb hown (hts _ kc_X11_222) dX11_readLine_147 ?_
      refine lv_iconst (v := 1) (pc := 150) hx hb dX11_readLine_150 (by decide) ?_
      refine lv_bipush (v := 99) (pc := 151) hx hb dX11_readLine_151 (by decide) ?_
      obtain ⟨q123_2, hq123_2, hf⟩ := gbd hf
      refine g_callVi (pc := 153) (rest := [.ref (ad 0)]) hC hU hH hS hl.1 gk1_0 rfl (by decide) (mX11_told  hq123_2) ky_X11_told km_X11_342 ⟨Nat.le_of_ble_eq_true rfl, Nat.le_of_ble_eq_true rfl⟩ ⟨Nat.zero_le _, Nat.zero_le _⟩ rfl (Nat.le_of_ble_eq_true rfl) dX11_readLine_153 rfl (fun H locs hH hS => ?_)
      refine g_puti (pc := 156) hC hU hH hS gk1_0 g_cl11 46 (by decide) kf_X11_377 rfl rfl rfl rfl dX11_readLine_156 (fun H locs hH hS => ?_)
      refine lv_goto (tgt := 207) (pc := 159) hx hb dX11_readLine_159 (by decide) ?_
      exact bX11_readLine_207 hC hret hlk hU hf hH hS (lv_sub hl [0] rfl)
def fX11_readLine_77    (st : gS) : Option (gS) :=
  (fX11_isWord 512970880104 st).bind fun q77_1 => (if q77_1.1 = 0 then ((fX11_isWord 1936484720 q77_1.2).bind fun q77_2 => (if q77_2.1 = 0 then (fX11_readLine_123 q77_2.2) else (if (q77_2.2.1 0 52) = 0 then ((fX11_readSlip (wi q77_2.2 0 52 1)).bind fun q77_3 => (fX11_readLine_207 q77_3)) else (fX11_readLine_123 q77_2.2)))) else ((fX11_readWorth q77_1.2).bind fun q77_4 => (fX11_readLine_207 q77_4)))
set_option maxRecDepth 100000 in
set_option maxHeartbeats 4000000 in
theorem bX11_readLine_77  (hC : CallFix p m c cX11_readLine 1 s args lw_good RX11) (hret : meth.sig.returnType = none) (hlk : meth.locks = false) (hU : gU 1 D cA ad s)  {st' : gS}   {st : gS} {H : Heap} {locs : List Loc} {ls : Array Slot} (hf : fX11_readLine_77 st = some st') (hH : gP0 1 D cA ad st H) (hS : va_S (gA 1 ad) s.heap H locs) (hl : lv_has ls 1 [(0, .ref (ad 0))]) : W p l e (gRm 6) s m args below meth c H locs 0 0 (MQ below (gQc 1 D cA ad st' none) args s 0 0 (gA 1 ad)) (F0 m 77 ls []) := by
  obtain ⟨hx, hb, hml, hown, hts⟩ := id hC
  unfold fX11_readLine_77 at hf
  refine lv_aload_n (pc := 77) hx hb dX11_readLine_77 rfl (lv_at hl 0 rfl) ?_
  refine lv_ldc2 (pc := 78) hx hb hown (hts _ kc_X11_218) dX11_readLine_78 ?_
  obtain ⟨q77_1, hq77_1, hf⟩ := gbd hf
  refine g_callVi (pc := 81) (rest := []) hC hU hH hS hl.1 gk1_0 rfl (by decide) (mX11_isWord  hq77_1) ky_X11_isWord km_X11_242 ⟨Nat.le_of_ble_eq_true rfl, Nat.le_of_ble_eq_true rfl⟩ ⟨Nat.zero_le _, Nat.zero_le _⟩ rfl (Nat.le_of_ble_eq_true rfl) dX11_readLine_81 rfl (fun H locs hH hS => ?_)
  refine lv_if_eq (tgt := 94) (pc := 84) hx hb dX11_readLine_84 (by decide) (fun hc => ?_) (fun hc => ?_)
  · have hf := gif_p hc hf
    refine lv_aload_n (pc := 94) hx hb dX11_readLine_94 rfl (lv_at hl 0 rfl) ?_
    refine lv_ldc2 (pc := 95) hx hb hown (hts _ kc_X11_220) dX11_readLine_95 ?_
    obtain ⟨q77_2, hq77_2, hf⟩ := gbd hf
    refine g_callVi (pc := 98) (rest := []) hC hU hH hS hl.1 gk1_0 rfl (by decide) (mX11_isWord  hq77_2) ky_X11_isWord km_X11_242 ⟨Nat.le_of_ble_eq_true rfl, Nat.le_of_ble_eq_true rfl⟩ ⟨Nat.zero_le _, Nat.zero_le _⟩ rfl (Nat.le_of_ble_eq_true rfl) dX11_readLine_98 rfl (fun H locs hH hS => ?_)
    refine lv_if_eq (tgt := 123) (pc := 101) hx hb dX11_readLine_101 (by decide) (fun hc => ?_) (fun hc => ?_)
    · have hf := gif_p hc hf
      exact bX11_readLine_123 hC hret hlk hU hf hH hS (lv_sub hl [0] rfl)
    · have hf := gif_n hc hf
      refine lv_aload_n (pc := 104) hx hb dX11_readLine_104 rfl (lv_at hl 0 rfl) ?_
      refine g_get (pc := 105) (v := .int (q77_2.2.1 0 52)) hC hU hH gk1_0 g_cl11 52 (by decide) kf_X11_367 rfl dX11_readLine_105 ?_
      refine lv_if_ne (tgt := 123) (pc := 108) hx hb dX11_readLine_108 (by decide) (fun hc => ?_) (fun hc => ?_)
      · have hf := gif_n hc hf
        exact bX11_readLine_123 hC hret hlk hU hf hH hS (lv_sub hl [0] rfl)
      · have hf := gif_p hc hf
        refine lv_aload_n (pc := 111) hx hb dX11_readLine_111 rfl (lv_at hl 0 rfl) ?_
        refine lv_iconst (v := 1) (pc := 112) hx hb dX11_readLine_112 (by decide) ?_
        refine g_puti (pc := 113) hC hU hH hS gk1_0 g_cl11 52 (by decide) kf_X11_367 rfl rfl rfl rfl dX11_readLine_113 (fun H locs hH hS => ?_)
        refine lv_aload_n (pc := 116) hx hb dX11_readLine_116 rfl (lv_at hl 0 rfl) ?_
        obtain ⟨q77_3, hq77_3, hf⟩ := gbd hf
        refine g_callVv (pc := 117) (rest := []) hC hU hH hS hl.1 gk1_0 rfl (by decide) (mX11_readSlip  hq77_3) ky_X11_readSlip km_X11_371 ⟨Nat.le_of_ble_eq_true rfl, Nat.le_of_ble_eq_true rfl⟩ ⟨Nat.zero_le _, Nat.zero_le _⟩ rfl (Nat.le_of_ble_eq_true rfl) dX11_readLine_117 rfl (fun H locs hH hS => ?_)
        refine lv_goto (tgt := 207) (pc := 120) hx hb dX11_readLine_120 (by decide) ?_
        exact bX11_readLine_207 hC hret hlk hU hf hH hS (lv_sub hl [0] rfl)
  · have hf := gif_n hc hf
    refine lv_aload_n (pc := 87) hx hb dX11_readLine_87 rfl (lv_at hl 0 rfl) ?_
    obtain ⟨q77_4, hq77_4, hf⟩ := gbd hf
    refine g_callVv (pc := 88) (rest := []) hC hU hH hS hl.1 gk1_0 rfl (by decide) (mX11_readWorth  hq77_4) ky_X11_readWorth km_X11_364 ⟨Nat.le_of_ble_eq_true rfl, Nat.le_of_ble_eq_true rfl⟩ ⟨Nat.zero_le _, Nat.zero_le _⟩ rfl (Nat.le_of_ble_eq_true rfl) dX11_readLine_88 rfl (fun H locs hH hS => ?_)
    refine lv_goto (tgt := 207) (pc := 91) hx hb dX11_readLine_91 (by decide) ?_
    exact bX11_readLine_207 hC hret hlk hU hf hH hS (lv_sub hl [0] rfl)
def fX11_readLine_51    (st : gS) : Option (gS) :=
  (fX11_isWord 1836021349 st).bind fun q51_1 => (if q51_1.1 = 0 then (fX11_readLine_77 q51_1.2) else (if 16 ≤ (q51_1.2.1 0 45) then (fX11_readLine_77 q51_1.2) else ((fX11_readMove q51_1.2).bind fun q51_2 => (fX11_readLine_207 q51_2))))
set_option maxRecDepth 100000 in
set_option maxHeartbeats 4000000 in
theorem bX11_readLine_51  (hC : CallFix p m c cX11_readLine 1 s args lw_good RX11) (hret : meth.sig.returnType = none) (hlk : meth.locks = false) (hU : gU 1 D cA ad s)  {st' : gS}   {st : gS} {H : Heap} {locs : List Loc} {ls : Array Slot} (hf : fX11_readLine_51 st = some st') (hH : gP0 1 D cA ad st H) (hS : va_S (gA 1 ad) s.heap H locs) (hl : lv_has ls 1 [(0, .ref (ad 0))]) : W p l e (gRm 6) s m args below meth c H locs 0 0 (MQ below (gQc 1 D cA ad st' none) args s 0 0 (gA 1 ad)) (F0 m 51 ls []) := by
  obtain ⟨hx, hb, hml, hown, hts⟩ := id hC
  unfold fX11_readLine_51 at hf
  refine lv_aload_n (pc := 51) hx hb dX11_readLine_51 rfl (lv_at hl 0 rfl) ?_
  refine lv_ldc2 (pc := 52) hx hb hown (hts _ kc_X11_210) dX11_readLine_52 ?_
  obtain ⟨q51_1, hq51_1, hf⟩ := gbd hf
  refine g_callVi (pc := 55) (rest := []) hC hU hH hS hl.1 gk1_0 rfl (by decide) (mX11_isWord  hq51_1) ky_X11_isWord km_X11_242 ⟨Nat.le_of_ble_eq_true rfl, Nat.le_of_ble_eq_true rfl⟩ ⟨Nat.zero_le _, Nat.zero_le _⟩ rfl (Nat.le_of_ble_eq_true rfl) dX11_readLine_55 rfl (fun H locs hH hS => ?_)
  refine lv_if_eq (tgt := 77) (pc := 58) hx hb dX11_readLine_58 (by decide) (fun hc => ?_) (fun hc => ?_)
  · have hf := gif_p hc hf
    exact bX11_readLine_77 hC hret hlk hU hf hH hS (lv_sub hl [0] rfl)
  · have hf := gif_n hc hf
    refine lv_aload_n (pc := 61) hx hb dX11_readLine_61 rfl (lv_at hl 0 rfl) ?_
    refine g_get (pc := 62) (v := .int (q51_1.2.1 0 45)) hC hU hH gk1_0 g_cl11 45 (by decide) kf_X11_349 rfl dX11_readLine_62 ?_
    refine lv_bipush (v := 16) (pc := 65) hx hb dX11_readLine_65 (by decide) ?_
    refine lv_icmp_ge (tgt := 77) (pc := 67) hx hb dX11_readLine_67 (by decide) (fun hc => ?_) (fun hc => ?_)
    · have hf := gif_p hc hf
      exact bX11_readLine_77 hC hret hlk hU hf hH hS (lv_sub hl [0] rfl)
    · have hf := gif_n hc hf
      refine lv_aload_n (pc := 70) hx hb dX11_readLine_70 rfl (lv_at hl 0 rfl) ?_
      obtain ⟨q51_2, hq51_2, hf⟩ := gbd hf
      refine g_callVv (pc := 71) (rest := []) hC hU hH hS hl.1 gk1_0 rfl (by decide) (mX11_readMove  hq51_2) ky_X11_readMove km_X11_361 ⟨Nat.le_of_ble_eq_true rfl, Nat.le_of_ble_eq_true rfl⟩ ⟨Nat.zero_le _, Nat.zero_le _⟩ rfl (Nat.le_of_ble_eq_true rfl) dX11_readLine_71 rfl (fun H locs hH hS => ?_)
      refine lv_goto (tgt := 207) (pc := 74) hx hb dX11_readLine_74 (by decide) ?_
      exact bX11_readLine_207 hC hret hlk hU hf hH hS (lv_sub hl [0] rfl)
def fX11_readLine_26    (st : gS) : Option (gS) :=
  (fX11_isWord 500135715429 st).bind fun q26_1 => (if q26_1.1 = 0 then (fX11_readLine_51 q26_1.2) else (if 5 ≤ (q26_1.2.1 0 44) then (fX11_readLine_51 q26_1.2) else ((fX11_readTribe q26_1.2).bind fun q26_2 => (fX11_readLine_207 q26_2))))
set_option maxRecDepth 100000 in
set_option maxHeartbeats 4000000 in
theorem bX11_readLine_26  (hC : CallFix p m c cX11_readLine 1 s args lw_good RX11) (hret : meth.sig.returnType = none) (hlk : meth.locks = false) (hU : gU 1 D cA ad s)  {st' : gS}   {st : gS} {H : Heap} {locs : List Loc} {ls : Array Slot} (hf : fX11_readLine_26 st = some st') (hH : gP0 1 D cA ad st H) (hS : va_S (gA 1 ad) s.heap H locs) (hl : lv_has ls 1 [(0, .ref (ad 0))]) : W p l e (gRm 6) s m args below meth c H locs 0 0 (MQ below (gQc 1 D cA ad st' none) args s 0 0 (gA 1 ad)) (F0 m 26 ls []) := by
  obtain ⟨hx, hb, hml, hown, hts⟩ := id hC
  unfold fX11_readLine_26 at hf
  refine lv_aload_n (pc := 26) hx hb dX11_readLine_26 rfl (lv_at hl 0 rfl) ?_
  refine lv_ldc2 (pc := 27) hx hb hown (hts _ kc_X11_202) dX11_readLine_27 ?_
  obtain ⟨q26_1, hq26_1, hf⟩ := gbd hf
  refine g_callVi (pc := 30) (rest := []) hC hU hH hS hl.1 gk1_0 rfl (by decide) (mX11_isWord  hq26_1) ky_X11_isWord km_X11_242 ⟨Nat.le_of_ble_eq_true rfl, Nat.le_of_ble_eq_true rfl⟩ ⟨Nat.zero_le _, Nat.zero_le _⟩ rfl (Nat.le_of_ble_eq_true rfl) dX11_readLine_30 rfl (fun H locs hH hS => ?_)
  refine lv_if_eq (tgt := 51) (pc := 33) hx hb dX11_readLine_33 (by decide) (fun hc => ?_) (fun hc => ?_)
  · have hf := gif_p hc hf
    exact bX11_readLine_51 hC hret hlk hU hf hH hS (lv_sub hl [0] rfl)
  · have hf := gif_n hc hf
    refine lv_aload_n (pc := 36) hx hb dX11_readLine_36 rfl (lv_at hl 0 rfl) ?_
    refine g_get (pc := 37) (v := .int (q26_1.2.1 0 44)) hC hU hH gk1_0 g_cl11 44 (by decide) kf_X11_339 rfl dX11_readLine_37 ?_
    refine lv_iconst (v := 5) (pc := 40) hx hb dX11_readLine_40 (by decide) ?_
    refine lv_icmp_ge (tgt := 51) (pc := 41) hx hb dX11_readLine_41 (by decide) (fun hc => ?_) (fun hc => ?_)
    · have hf := gif_p hc hf
      exact bX11_readLine_51 hC hret hlk hU hf hH hS (lv_sub hl [0] rfl)
    · have hf := gif_n hc hf
      refine lv_aload_n (pc := 44) hx hb dX11_readLine_44 rfl (lv_at hl 0 rfl) ?_
      obtain ⟨q26_2, hq26_2, hf⟩ := gbd hf
      refine g_callVv (pc := 45) (rest := []) hC hU hH hS hl.1 gk1_0 rfl (by decide) (mX11_readTribe  hq26_2) ky_X11_readTribe km_X11_358 ⟨Nat.le_of_ble_eq_true rfl, Nat.le_of_ble_eq_true rfl⟩ ⟨Nat.zero_le _, Nat.zero_le _⟩ rfl (Nat.le_of_ble_eq_true rfl) dX11_readLine_45 rfl (fun H locs hH hS => ?_)
      refine lv_goto (tgt := 207) (pc := 48) hx hb dX11_readLine_48 (by decide) ?_
      exact bX11_readLine_207 hC hret hlk hU hf hH hS (lv_sub hl [0] rfl)
def fX11_readLine    (st : gS) : Option (gS) :=
  (fX11_isWord 112602893349477 st).bind fun q0_1 => (if q0_1.1 = 0 then (fX11_readLine_26 q0_1.2) else (if 8 ≤ (q0_1.2.1 0 43) then (fX11_readLine_26 q0_1.2) else ((fX11_readFigure q0_1.2).bind fun q0_2 => (fX11_readLine_207 q0_2))))
set_option maxRecDepth 100000 in
set_option maxHeartbeats 4000000 in
theorem bX11_readLine_0  (hC : CallFix p m c cX11_readLine 1 s args lw_good RX11) (hret : meth.sig.returnType = none) (hlk : meth.locks = false) (hU : gU 1 D cA ad s)  {st' : gS}   {st : gS} {H : Heap} {locs : List Loc} {ls : Array Slot} (hf : fX11_readLine st = some st') (hH : gP0 1 D cA ad st H) (hS : va_S (gA 1 ad) s.heap H locs) (hl : lv_has ls 1 [(0, .ref (ad 0))]) : W p l e (gRm 6) s m args below meth c H locs 0 0 (MQ below (gQc 1 D cA ad st' none) args s 0 0 (gA 1 ad)) (F0 m 0 ls []) := by
  obtain ⟨hx, hb, hml, hown, hts⟩ := id hC
  unfold fX11_readLine at hf
  refine lv_aload_n (pc := 0) hx hb dX11_readLine_0 rfl (lv_at hl 0 rfl) ?_
  refine lv_ldc2 (pc := 1) hx hb hown (hts _ kc_X11_200) dX11_readLine_1 ?_
  obtain ⟨q0_1, hq0_1, hf⟩ := gbd hf
  refine g_callVi (pc := 4) (rest := []) hC hU hH hS hl.1 gk1_0 rfl (by decide) (mX11_isWord  hq0_1) ky_X11_isWord km_X11_242 ⟨Nat.le_of_ble_eq_true rfl, Nat.le_of_ble_eq_true rfl⟩ ⟨Nat.zero_le _, Nat.zero_le _⟩ rfl (Nat.le_of_ble_eq_true rfl) dX11_readLine_4 rfl (fun H locs hH hS => ?_)
  refine lv_if_eq (tgt := 26) (pc := 7) hx hb dX11_readLine_7 (by decide) (fun hc => ?_) (fun hc => ?_)
  · have hf := gif_p hc hf
    exact bX11_readLine_26 hC hret hlk hU hf hH hS (lv_sub hl [0] rfl)
  · have hf := gif_n hc hf
    refine lv_aload_n (pc := 10) hx hb dX11_readLine_10 rfl (lv_at hl 0 rfl) ?_
    refine g_get (pc := 11) (v := .int (q0_1.2.1 0 43)) hC hU hH gk1_0 g_cl11 43 (by decide) kf_X11_266 rfl dX11_readLine_11 ?_
    refine lv_bipush (v := 8) (pc := 14) hx hb dX11_readLine_14 (by decide) ?_
    refine lv_icmp_ge (tgt := 26) (pc := 16) hx hb dX11_readLine_16 (by decide) (fun hc => ?_) (fun hc => ?_)
    · have hf := gif_p hc hf
      exact bX11_readLine_26 hC hret hlk hU hf hH hS (lv_sub hl [0] rfl)
    · have hf := gif_n hc hf
      refine lv_aload_n (pc := 19) hx hb dX11_readLine_19 rfl (lv_at hl 0 rfl) ?_
      obtain ⟨q0_2, hq0_2, hf⟩ := gbd hf
      refine g_callVv (pc := 20) (rest := []) hC hU hH hS hl.1 gk1_0 rfl (by decide) (mX11_readFigure  hq0_2) ky_X11_readFigure km_X11_355 ⟨Nat.le_of_ble_eq_true rfl, Nat.le_of_ble_eq_true rfl⟩ ⟨Nat.zero_le _, Nat.zero_le _⟩ rfl (Nat.le_of_ble_eq_true rfl) dX11_readLine_20 rfl (fun H locs hH hS => ?_)
      refine lv_goto (tgt := 207) (pc := 23) hx hb dX11_readLine_23 (by decide) ?_
      exact bX11_readLine_207 hC hret hlk hU hf hH hS (lv_sub hl [0] rfl)
set_option maxRecDepth 100000 in
set_option maxHeartbeats 4000000 in
theorem mX11_readLine {l : Launch} {D : va_G} {cA : Nat → ClassId} {ad : Nat → Nat}   {st st' : gS} (hf : fX11_readLine  st = some st') : gM l yX11_readLine cX11_readLine 1 none 6 1 D cA ad st [.ref (ad 0)] none st' := by
  refine g_met (by decide) (Nat.le_of_ble_eq_true rfl) ?_
  intro p e s m args below meth c ls hC hret hlk hU hH hl
  exact bX11_readLine_0 hC hret hlk hU hf hH va_S.rf hl
def fX11_readAll_78  (k78 : gS → Option (gS))  (st : gS) : Option (gS) :=
  if (st.1 0 2) = 0 then (if (st.1 0 6) = 0 then (some st) else ((fX11_readLine st).bind fun q78_1 => (k78 q78_1))) else (some st)
set_option maxRecDepth 100000 in
set_option maxHeartbeats 4000000 in
theorem bX11_readAll_78  (hC : CallFix p m c cX11_readAll 1 s args lw_good RX11) (hret : meth.sig.returnType = none) (hlk : meth.locks = false) (hU : gU 1 D cA ad s)  {st' : gS} {k78 : gS → Option (gS)} (hk78 : ∀  {st : gS} {H : Heap} {locs : List Loc} {ls : Array Slot}, k78  st = some st' → gP0 1 D cA ad st H → va_S (gA 1 ad) s.heap H locs → lv_has ls 1 [(0, .ref (ad 0))] → W p l e (gRm 7) s m args below meth c H locs 0 0 (MQ below (gQc 1 D cA ad st' none) args s 0 0 (gA 1 ad)) (F0 m 78 ls []))  {st : gS} {H : Heap} {locs : List Loc} {ls : Array Slot} (hf : fX11_readAll_78 k78 st = some st') (hH : gP0 1 D cA ad st H) (hS : va_S (gA 1 ad) s.heap H locs) (hl : lv_has ls 1 [(0, .ref (ad 0))]) : W p l e (gRm 7) s m args below meth c H locs 0 0 (MQ below (gQc 1 D cA ad st' none) args s 0 0 (gA 1 ad)) (F0 m 78 ls []) := by
  obtain ⟨hx, hb, hml, hown, hts⟩ := id hC
  unfold fX11_readAll_78 at hf
  refine lv_aload_n (pc := 78) hx hb dX11_readAll_78 rfl (lv_at hl 0 rfl) ?_
  refine g_get (pc := 79) (v := .int (st.1 0 2)) hC hU hH gk1_0 g_cl11 2 (by decide) kf_X11_197 rfl dX11_readAll_79 ?_
  refine lv_if_ne (tgt := 99) (pc := 82) hx hb dX11_readAll_82 (by decide) (fun hc => ?_) (fun hc => ?_)
  · have hf := gif_n hc hf
    exact g_vret (pc := 99) hC hret hlk hH hS hf dX11_readAll_99
  · have hf := gif_p hc hf
    refine lv_aload_n (pc := 85) hx hb dX11_readAll_85 rfl (lv_at hl 0 rfl) ?_
    refine g_get (pc := 86) (v := .int (st.1 0 6)) hC hU hH gk1_0 g_cl11 6 (by decide) kf_X11_184 rfl dX11_readAll_86 ?_
    refine lv_if_eq (tgt := 99) (pc := 89) hx hb dX11_readAll_89 (by decide) (fun hc => ?_) (fun hc => ?_)
    · have hf := gif_p hc hf
      exact g_vret (pc := 99) hC hret hlk hH hS hf dX11_readAll_99
    · have hf := gif_n hc hf
      refine lv_aload_n (pc := 92) hx hb dX11_readAll_92 rfl (lv_at hl 0 rfl) ?_
      obtain ⟨q78_1, hq78_1, hf⟩ := gbd hf
      refine g_callVv (pc := 93) (rest := []) hC hU hH hS hl.1 gk1_0 rfl (by decide) (mX11_readLine  hq78_1) ky_X11_readLine km_X11_386 ⟨Nat.le_of_ble_eq_true rfl, Nat.le_of_ble_eq_true rfl⟩ ⟨Nat.zero_le _, Nat.zero_le _⟩ rfl (Nat.le_of_ble_eq_true rfl) dX11_readAll_93 rfl (fun H locs hH hS => ?_)
      refine lv_goto (tgt := 78) (pc := 96) hx hb dX11_readAll_96 (by decide) ?_
      exact hk78 hf hH hS (lv_sub hl [0] rfl)
def hX11_readAll_78   : Nat → gS → Option (gS)
  | 0 => fun _ => none
  | n + 1 => fun  st => fX11_readAll_78 (hX11_readAll_78  n) st
set_option maxRecDepth 100000 in
set_option maxHeartbeats 4000000 in
theorem wX11_readAll_78  (hC : CallFix p m c cX11_readAll 1 s args lw_good RX11) (hret : meth.sig.returnType = none) (hlk : meth.locks = false) (hU : gU 1 D cA ad s)  {st' : gS}  : ∀ (n : Nat)  {st : gS} {H : Heap} {locs : List Loc} {ls : Array Slot}, hX11_readAll_78  n  st = some st' → gP0 1 D cA ad st H → va_S (gA 1 ad) s.heap H locs → lv_has ls 1 [(0, .ref (ad 0))] → W p l e (gRm 7) s m args below meth c H locs 0 0 (MQ below (gQc 1 D cA ad st' none) args s 0 0 (gA 1 ad)) (F0 m 78 ls []) := by
  intro n
  induction n with
  | zero => intro  st H locs ls hf hH hS hl; cases hf
  | succ n ih =>
    intro  st H locs ls hf hH hS hl
    exact bX11_readAll_78  hC hret hlk hU (fun hf hH hS hl => ih hf hH hS hl) hf hH hS hl
def fX11_readAll    (st : gS) : Option (gS) :=
  (fX11_token (wi (wi (wi (wi (wi (wi (wi (wi (wi (wi (wi (wi (wi (wi st 0 5 (st.1 0 1)) 0 1 0) 0 4 0) 0 2 0) 0 3 (-1)) 0 43 0) 0 44 0) 0 45 0) 0 46 9) 0 47 0) 0 52 0) 0 53 0) 0 54 0) 0 20 0)).bind fun q0_1 => (hX11_readAll_78 FU q0_1)
set_option maxRecDepth 100000 in
set_option maxHeartbeats 4000000 in
theorem bX11_readAll_0  (hC : CallFix p m c cX11_readAll 1 s args lw_good RX11) (hret : meth.sig.returnType = none) (hlk : meth.locks = false) (hU : gU 1 D cA ad s)  {st' : gS}   {st : gS} {H : Heap} {locs : List Loc} {ls : Array Slot} (hf : fX11_readAll st = some st') (hH : gP0 1 D cA ad st H) (hS : va_S (gA 1 ad) s.heap H locs) (hl : lv_has ls 1 [(0, .ref (ad 0))]) : W p l e (gRm 7) s m args below meth c H locs 0 0 (MQ below (gQc 1 D cA ad st' none) args s 0 0 (gA 1 ad)) (F0 m 0 ls []) := by
  obtain ⟨hx, hb, hml, hown, hts⟩ := id hC
  unfold fX11_readAll at hf
  refine lv_aload_n (pc := 0) hx hb dX11_readAll_0 rfl (lv_at hl 0 rfl) ?_
  refine lv_aload_n (pc := 1) hx hb dX11_readAll_1 rfl (lv_at hl 0 rfl) ?_
  refine g_get (pc := 2) (v := .int (st.1 0 1)) hC hU hH gk1_0 g_cl11 1 (by decide) kf_X11_157 rfl dX11_readAll_2 ?_
  refine g_puti (pc := 5) hC hU hH hS gk1_0 g_cl11 5 (by decide) kf_X11_167 rfl rfl rfl rfl dX11_readAll_5 (fun H locs hH hS => ?_)
  refine lv_aload_n (pc := 8) hx hb dX11_readAll_8 rfl (lv_at hl 0 rfl) ?_
  refine lv_iconst (v := 0) (pc := 9) hx hb dX11_readAll_9 (by decide) ?_
  refine g_puti (pc := 10) hC hU hH hS gk1_0 g_cl11 1 (by decide) kf_X11_157 rfl rfl rfl rfl dX11_readAll_10 (fun H locs hH hS => ?_)
  refine lv_aload_n (pc := 13) hx hb dX11_readAll_13 rfl (lv_at hl 0 rfl) ?_
  refine lv_iconst (v := 0) (pc := 14) hx hb dX11_readAll_14 (by decide) ?_
  refine g_puti (pc := 15) hC hU hH hS gk1_0 g_cl11 4 (by decide) kf_X11_164 rfl rfl rfl rfl dX11_readAll_15 (fun H locs hH hS => ?_)
  refine lv_aload_n (pc := 18) hx hb dX11_readAll_18 rfl (lv_at hl 0 rfl) ?_
  refine lv_iconst (v := 0) (pc := 19) hx hb dX11_readAll_19 (by decide) ?_
  refine g_puti (pc := 20) hC hU hH hS gk1_0 g_cl11 2 (by decide) kf_X11_197 rfl rfl rfl rfl dX11_readAll_20 (fun H locs hH hS => ?_)
  refine lv_aload_n (pc := 23) hx hb dX11_readAll_23 rfl (lv_at hl 0 rfl) ?_
  refine lv_iconst (v := (-1)) (pc := 24) hx hb dX11_readAll_24 (by decide) ?_
  refine g_puti (pc := 25) hC hU hH hS gk1_0 g_cl11 3 (by decide) kf_X11_13 rfl rfl rfl rfl dX11_readAll_25 (fun H locs hH hS => ?_)
  refine lv_aload_n (pc := 28) hx hb dX11_readAll_28 rfl (lv_at hl 0 rfl) ?_
  refine lv_iconst (v := 0) (pc := 29) hx hb dX11_readAll_29 (by decide) ?_
  refine g_puti (pc := 30) hC hU hH hS gk1_0 g_cl11 43 (by decide) kf_X11_266 rfl rfl rfl rfl dX11_readAll_30 (fun H locs hH hS => ?_)
  refine lv_aload_n (pc := 33) hx hb dX11_readAll_33 rfl (lv_at hl 0 rfl) ?_
  refine lv_iconst (v := 0) (pc := 34) hx hb dX11_readAll_34 (by decide) ?_
  refine g_puti (pc := 35) hC hU hH hS gk1_0 g_cl11 44 (by decide) kf_X11_339 rfl rfl rfl rfl dX11_readAll_35 (fun H locs hH hS => ?_)
  refine lv_aload_n (pc := 38) hx hb dX11_readAll_38 rfl (lv_at hl 0 rfl) ?_
  refine lv_iconst (v := 0) (pc := 39) hx hb dX11_readAll_39 (by decide) ?_
  refine g_puti (pc := 40) hC hU hH hS gk1_0 g_cl11 45 (by decide) kf_X11_349 rfl rfl rfl rfl dX11_readAll_40 (fun H locs hH hS => ?_)
  refine lv_aload_n (pc := 43) hx hb dX11_readAll_43 rfl (lv_at hl 0 rfl) ?_
  refine lv_bipush (v := 9) (pc := 44) hx hb dX11_readAll_44 (by decide) ?_
  refine g_puti (pc := 46) hC hU hH hS gk1_0 g_cl11 46 (by decide) kf_X11_377 rfl rfl rfl rfl dX11_readAll_46 (fun H locs hH hS => ?_)
  refine lv_aload_n (pc := 49) hx hb dX11_readAll_49 rfl (lv_at hl 0 rfl) ?_
  refine lv_iconst (v := 0) (pc := 50) hx hb dX11_readAll_50 (by decide) ?_
  refine g_puti (pc := 51) hC hU hH hS gk1_0 g_cl11 47 (by decide) kf_X11_383 rfl rfl rfl rfl dX11_readAll_51 (fun H locs hH hS => ?_)
  refine lv_aload_n (pc := 54) hx hb dX11_readAll_54 rfl (lv_at hl 0 rfl) ?_
  refine lv_iconst (v := 0) (pc := 55) hx hb dX11_readAll_55 (by decide) ?_
  refine g_puti (pc := 56) hC hU hH hS gk1_0 g_cl11 52 (by decide) kf_X11_367 rfl rfl rfl rfl dX11_readAll_56 (fun H locs hH hS => ?_)
  refine lv_aload_n (pc := 59) hx hb dX11_readAll_59 rfl (lv_at hl 0 rfl) ?_
  refine lv_iconst (v := 0) (pc := 60) hx hb dX11_readAll_60 (by decide) ?_
  refine g_puti (pc := 61) hC hU hH hS gk1_0 g_cl11 53 (by decide) kf_X11_374 rfl rfl rfl rfl dX11_readAll_61 (fun H locs hH hS => ?_)
  refine lv_aload_n (pc := 64) hx hb dX11_readAll_64 rfl (lv_at hl 0 rfl) ?_
  refine lv_iconst (v := 0) (pc := 65) hx hb dX11_readAll_65 (by decide) ?_
  refine g_puti (pc := 66) hC hU hH hS gk1_0 g_cl11 54 (by decide) kf_X11_380 rfl rfl rfl rfl dX11_readAll_66 (fun H locs hH hS => ?_)
  refine lv_aload_n (pc := 69) hx hb dX11_readAll_69 rfl (lv_at hl 0 rfl) ?_
  refine lv_iconst (v := 0) (pc := 70) hx hb dX11_readAll_70 (by decide) ?_
  refine g_puti (pc := 71) hC hU hH hS gk1_0 g_cl11 20 (by decide) kf_X11_288 rfl rfl rfl rfl dX11_readAll_71 (fun H locs hH hS => ?_)
  refine lv_aload_n (pc := 74) hx hb dX11_readAll_74 rfl (lv_at hl 0 rfl) ?_
  obtain ⟨q0_1, hq0_1, hf⟩ := gbd hf
  refine g_callVv (pc := 75) (rest := []) hC hU hH hS hl.1 gk1_0 rfl (by decide) (mX11_token  hq0_1) ky_X11_token km_X11_249 ⟨Nat.le_of_ble_eq_true rfl, Nat.le_of_ble_eq_true rfl⟩ ⟨Nat.zero_le _, Nat.zero_le _⟩ rfl (Nat.le_of_ble_eq_true rfl) dX11_readAll_75 rfl (fun H locs hH hS => ?_)
  exact wX11_readAll_78 hC hret hlk hU FU hf hH hS (lv_sub hl [0] rfl)
set_option maxRecDepth 100000 in
set_option maxHeartbeats 4000000 in
theorem mX11_readAll {l : Launch} {D : va_G} {cA : Nat → ClassId} {ad : Nat → Nat}   {st st' : gS} (hf : fX11_readAll  st = some st') : gM l yX11_readAll cX11_readAll 1 none 7 1 D cA ad st [.ref (ad 0)] none st' := by
  refine g_met (by decide) (Nat.le_of_ble_eq_true rfl) ?_
  intro p e s m args below meth c ls hC hret hlk hU hH hl
  exact bX11_readAll_0 hC hret hlk hU hf hH va_S.rf hl
def fX11_treaty_371  (k371 : Int32 → gS → Option (Int32 × gS)) (l1 : Int32) (st : gS) : Option (Int32 × gS) :=
  if 3 ≤ l1 then (some (st.1 0 48, st)) else (gc (gI l1 3) (k371 (l1 + 1) (wi st 45 l1.toNatClampNeg (vp_nar .boolean 0))))
set_option maxRecDepth 100000 in
set_option maxHeartbeats 4000000 in
theorem bX11_treaty_371  (hC : CallFix p m c cX11_treaty 2 s args lw_good RX11) (hret : meth.sig.returnType = (some .int)) (hlk : meth.locks = false) (hU : gU 1 D cA ad s)  {r : Int32} {st' : gS} {k371 : Int32 → gS → Option (Int32 × gS)} (hk371 : ∀ {l1 : Int32} {st : gS} {H : Heap} {locs : List Loc} {ls : Array Slot}, k371 l1 st = some (r, st') → gP0 1 D cA ad st H → va_S (gA 1 ad) s.heap H locs → lv_has ls 2 [(0, .ref (ad 0)), (1, .int l1)] → W p l e (gRm 8) s m args below meth c H locs 0 0 (MQ below (gQc 1 D cA ad st' (some (.int r))) args s 0 0 (gA 1 ad)) (F0 m 371 ls [])) {l1 : Int32} {st : gS} {H : Heap} {locs : List Loc} {ls : Array Slot} (hf : fX11_treaty_371 k371 l1 st = some (r, st')) (hH : gP0 1 D cA ad st H) (hS : va_S (gA 1 ad) s.heap H locs) (hl : lv_has ls 2 [(0, .ref (ad 0)), (1, .int l1)]) : W p l e (gRm 8) s m args below meth c H locs 0 0 (MQ below (gQc 1 D cA ad st' (some (.int r))) args s 0 0 (gA 1 ad)) (F0 m 371 ls []) := by
  obtain ⟨hx, hb, hml, hown, hts⟩ := id hC
  unfold fX11_treaty_371 at hf
  refine lv_iload_n (pc := 371) hx hb dX11_treaty_371 rfl (lv_at hl 1 rfl) ?_
  refine lv_iconst (v := 3) (pc := 372) hx hb dX11_treaty_372 (by decide) ?_
  refine lv_icmp_ge (tgt := 389) (pc := 373) hx hb dX11_treaty_373 (by decide) (fun hc => ?_) (fun hc => ?_)
  · have hf := gif_p hc hf
    refine lv_aload_n (pc := 389) hx hb dX11_treaty_389 rfl (lv_at hl 0 rfl) ?_
    refine g_get (pc := 390) (v := .int (st.1 0 48)) hC hU hH gk1_0 g_cl11 48 (by decide) kf_X11_392 rfl dX11_treaty_390 ?_
    exact g_iret (pc := 393) hC hret hlk hH hS hf dX11_treaty_393
  · have hf := gif_n hc hf
    refine lv_aload_n (pc := 376) hx hb dX11_treaty_376 rfl (lv_at hl 0 rfl) ?_
    refine g_get (pc := 377) (v := .ref (ad 45)) hC hU hH gk1_0 g_cl11 77 (by decide) kf_X11_151 rfl dX11_treaty_377 ?_
    refine lv_iload_n (pc := 380) hx hb dX11_treaty_380 rfl (lv_at hl 1 rfl) ?_
    refine lv_iconst (v := 0) (pc := 381) hx hb dX11_treaty_381 (by decide) ?_
    obtain ⟨h371_1, hf⟩ := gc_s hf
    refine g_zast (pc := 382) hC hU hH hS gk1_45 gn1_45 h371_1 dX11_treaty_382 (fun H locs hH hS => ?_)
    refine lv_iinc (v := l1 + 1) (lv' := [(1, .int (l1 + 1)), (0, .ref (ad 0))]) (k := 1) (pc := 383) hx hb dX11_treaty_383 hl rfl rfl (by decide) rfl (fun ls hl => ?_)
    refine lv_goto (tgt := 371) (pc := 386) hx hb dX11_treaty_386 (by decide) ?_
    exact hk371 hf hH hS (lv_sub hl [1, 0] rfl)
def hX11_treaty_371   : Nat → Int32 → gS → Option (Int32 × gS)
  | 0 => fun _ _ => none
  | n + 1 => fun l1 st => fX11_treaty_371 (hX11_treaty_371  n) l1 st
set_option maxRecDepth 100000 in
set_option maxHeartbeats 4000000 in
theorem wX11_treaty_371  (hC : CallFix p m c cX11_treaty 2 s args lw_good RX11) (hret : meth.sig.returnType = (some .int)) (hlk : meth.locks = false) (hU : gU 1 D cA ad s)  {r : Int32} {st' : gS}  : ∀ (n : Nat) {l1 : Int32} {st : gS} {H : Heap} {locs : List Loc} {ls : Array Slot}, hX11_treaty_371  n l1 st = some (r, st') → gP0 1 D cA ad st H → va_S (gA 1 ad) s.heap H locs → lv_has ls 2 [(0, .ref (ad 0)), (1, .int l1)] → W p l e (gRm 8) s m args below meth c H locs 0 0 (MQ below (gQc 1 D cA ad st' (some (.int r))) args s 0 0 (gA 1 ad)) (F0 m 371 ls []) := by
  intro n
  induction n with
  | zero => intro l1 st H locs ls hf hH hS hl; cases hf
  | succ n ih =>
    intro l1 st H locs ls hf hH hS hl
    exact bX11_treaty_371  hC hret hlk hU (fun hf hH hS hl => ih hf hH hS hl) hf hH hS hl
def fX11_treaty_337   (s0 : Int32) (s1 : Int32) (st : gS) : Option (Int32 × gS) :=
  gc (gI s1 18) (gc (gI 17 18) (hX11_treaty_371 FU 0 (wi (wi (wi (wi (wi (wi st 28 s1.toNatClampNeg s0) 28 (17 : Int32).toNatClampNeg ((wi st 28 s1.toNatClampNeg s0).1 0 47)) 0 58 0) 0 59 0) 0 73 0) 0 62 0)))
set_option maxRecDepth 100000 in
set_option maxHeartbeats 4000000 in
theorem bX11_treaty_337  (hC : CallFix p m c cX11_treaty 2 s args lw_good RX11) (hret : meth.sig.returnType = (some .int)) (hlk : meth.locks = false) (hU : gU 1 D cA ad s)  {r : Int32} {st' : gS}  {s0 : Int32} {s1 : Int32} {st : gS} {H : Heap} {locs : List Loc} {ls : Array Slot} (hf : fX11_treaty_337 s0 s1 st = some (r, st')) (hH : gP0 1 D cA ad st H) (hS : va_S (gA 1 ad) s.heap H locs) (hl : lv_has ls 2 [(0, .ref (ad 0))]) : W p l e (gRm 8) s m args below meth c H locs 0 0 (MQ below (gQc 1 D cA ad st' (some (.int r))) args s 0 0 (gA 1 ad)) (F0 m 337 ls [.int s0, .int s1, .ref (ad 28)]) := by
  obtain ⟨hx, hb, hml, hown, hts⟩ := id hC
  unfold fX11_treaty_337 at hf
  obtain ⟨h337_1, hf⟩ := gc_s hf
  refine g_iast (pc := 337) hC hU hH hS gk1_28 gn1_28 h337_1 dX11_treaty_337 (fun H locs hH hS => ?_)
  refine lv_aload_n (pc := 338) hx hb dX11_treaty_338 rfl (lv_at hl 0 rfl) ?_
  refine g_get (pc := 339) (v := .ref (ad 28)) hC hU hH gk1_0 g_cl11 55 (by decide) kf_X11_100 rfl dX11_treaty_339 ?_
  refine lv_bipush (v := 17) (pc := 342) hx hb dX11_treaty_342 (by decide) ?_
  refine lv_aload_n (pc := 344) hx hb dX11_treaty_344 rfl (lv_at hl 0 rfl) ?_
  refine g_get (pc := 345) (v := .int ((wi st 28 s1.toNatClampNeg s0).1 0 47)) hC hU hH gk1_0 g_cl11 47 (by decide) kf_X11_383 rfl dX11_treaty_345 ?_
  obtain ⟨h337_2, hf⟩ := gc_s hf
  refine g_iast (pc := 348) hC hU hH hS gk1_28 gn1_28 h337_2 dX11_treaty_348 (fun H locs hH hS => ?_)
  refine lv_aload_n (pc := 349) hx hb dX11_treaty_349 rfl (lv_at hl 0 rfl) ?_
  refine lv_iconst (v := 0) (pc := 350) hx hb dX11_treaty_350 (by decide) ?_
  refine g_puti (pc := 351) hC hU hH hS gk1_0 g_cl11 58 (by decide) kf_X11_404 rfl rfl rfl rfl dX11_treaty_351 (fun H locs hH hS => ?_)
  refine lv_aload_n (pc := 354) hx hb dX11_treaty_354 rfl (lv_at hl 0 rfl) ?_
  refine lv_iconst (v := 0) (pc := 355) hx hb dX11_treaty_355 (by decide) ?_
  refine g_puti (pc := 356) hC hU hH hS gk1_0 g_cl11 59 (by decide) kf_X11_407 rfl rfl rfl rfl dX11_treaty_356 (fun H locs hH hS => ?_)
  refine lv_aload_n (pc := 359) hx hb dX11_treaty_359 rfl (lv_at hl 0 rfl) ?_
  refine lv_iconst (v := 0) (pc := 360) hx hb dX11_treaty_360 (by decide) ?_
  refine g_puti (pc := 361) hC hU hH hS gk1_0 g_cl11 73 (by decide) kf_X11_410 rfl rfl rfl rfl dX11_treaty_361 (fun H locs hH hS => ?_)
  refine lv_aload_n (pc := 364) hx hb dX11_treaty_364 rfl (lv_at hl 0 rfl) ?_
  refine lv_iconst (v := 0) (pc := 365) hx hb dX11_treaty_365 (by decide) ?_
  refine g_puti (pc := 366) hC hU hH hS gk1_0 g_cl11 62 (by decide) kf_X11_413 rfl rfl rfl rfl dX11_treaty_366 (fun H locs hH hS => ?_)
  refine lv_iconst (v := 0) (pc := 369) hx hb dX11_treaty_369 (by decide) ?_
  refine lv_istore_n (lv' := [(1, .int 0), (0, .ref (ad 0))]) (pc := 370) hx hb dX11_treaty_370 rfl hl (by decide) rfl (fun ls hl => ?_)
  exact wX11_treaty_371 hC hret hlk hU FU hf hH hS (lv_sub hl [1, 0] rfl)
def fX11_treaty_319   (s0 : Int32) (s1 : Int32) (st : gS) : Option (Int32 × gS) :=
  gc (gI s1 18) (if ((wi st 28 s1.toNatClampNeg s0).1 0 49) = 0 then (fX11_treaty_337 (-1) 1 (wi st 28 s1.toNatClampNeg s0)) else (fX11_treaty_337 0 1 (wi st 28 s1.toNatClampNeg s0)))
set_option maxRecDepth 100000 in
set_option maxHeartbeats 4000000 in
theorem bX11_treaty_319  (hC : CallFix p m c cX11_treaty 2 s args lw_good RX11) (hret : meth.sig.returnType = (some .int)) (hlk : meth.locks = false) (hU : gU 1 D cA ad s)  {r : Int32} {st' : gS}  {s0 : Int32} {s1 : Int32} {st : gS} {H : Heap} {locs : List Loc} {ls : Array Slot} (hf : fX11_treaty_319 s0 s1 st = some (r, st')) (hH : gP0 1 D cA ad st H) (hS : va_S (gA 1 ad) s.heap H locs) (hl : lv_has ls 2 [(0, .ref (ad 0))]) : W p l e (gRm 8) s m args below meth c H locs 0 0 (MQ below (gQc 1 D cA ad st' (some (.int r))) args s 0 0 (gA 1 ad)) (F0 m 319 ls [.int s0, .int s1, .ref (ad 28)]) := by
  obtain ⟨hx, hb, hml, hown, hts⟩ := id hC
  unfold fX11_treaty_319 at hf
  obtain ⟨h319_1, hf⟩ := gc_s hf
  refine g_iast (pc := 319) hC hU hH hS gk1_28 gn1_28 h319_1 dX11_treaty_319 (fun H locs hH hS => ?_)
  refine lv_aload_n (pc := 320) hx hb dX11_treaty_320 rfl (lv_at hl 0 rfl) ?_
  refine g_get (pc := 321) (v := .ref (ad 28)) hC hU hH gk1_0 g_cl11 55 (by decide) kf_X11_100 rfl dX11_treaty_321 ?_
  refine lv_iconst (v := 1) (pc := 324) hx hb dX11_treaty_324 (by decide) ?_
  refine lv_aload_n (pc := 325) hx hb dX11_treaty_325 rfl (lv_at hl 0 rfl) ?_
  refine g_get (pc := 326) (v := .int ((wi st 28 s1.toNatClampNeg s0).1 0 49)) hC hU hH gk1_0 g_cl11 49 (by decide) kf_X11_395 rfl dX11_treaty_326 ?_
  refine lv_if_ne (tgt := 336) (pc := 329) hx hb dX11_treaty_329 (by decide) (fun hc => ?_) (fun hc => ?_)
  · have hf := gif_n hc hf
    refine lv_iconst (v := 0) (pc := 336) hx hb dX11_treaty_336 (by decide) ?_
    exact bX11_treaty_337 hC hret hlk hU hf hH hS (lv_sub hl [0] rfl)
  · have hf := gif_p hc hf
    refine lv_iconst (v := (-1)) (pc := 332) hx hb dX11_treaty_332 (by decide) ?_
    refine lv_goto (tgt := 337) (pc := 333) hx hb dX11_treaty_333 (by decide) ?_
    exact bX11_treaty_337 hC hret hlk hU hf hH hS (lv_sub hl [0] rfl)
def fX11_treaty_283  (k283 : Int32 → gS → Option (Int32 × gS)) (l1 : Int32) (st : gS) : Option (Int32 × gS) :=
  if 18 ≤ l1 then (if (st.1 0 48) = 0 then (fX11_treaty_319 (-1) 0 st) else (fX11_treaty_319 0 0 st)) else (gc (gI l1 18) (k283 (l1 + 1) (wi st 28 l1.toNatClampNeg 0)))
set_option maxRecDepth 100000 in
set_option maxHeartbeats 4000000 in
theorem bX11_treaty_283  (hC : CallFix p m c cX11_treaty 2 s args lw_good RX11) (hret : meth.sig.returnType = (some .int)) (hlk : meth.locks = false) (hU : gU 1 D cA ad s)  {r : Int32} {st' : gS} {k283 : Int32 → gS → Option (Int32 × gS)} (hk283 : ∀ {l1 : Int32} {st : gS} {H : Heap} {locs : List Loc} {ls : Array Slot}, k283 l1 st = some (r, st') → gP0 1 D cA ad st H → va_S (gA 1 ad) s.heap H locs → lv_has ls 2 [(0, .ref (ad 0)), (1, .int l1)] → W p l e (gRm 8) s m args below meth c H locs 0 0 (MQ below (gQc 1 D cA ad st' (some (.int r))) args s 0 0 (gA 1 ad)) (F0 m 283 ls [])) {l1 : Int32} {st : gS} {H : Heap} {locs : List Loc} {ls : Array Slot} (hf : fX11_treaty_283 k283 l1 st = some (r, st')) (hH : gP0 1 D cA ad st H) (hS : va_S (gA 1 ad) s.heap H locs) (hl : lv_has ls 2 [(0, .ref (ad 0)), (1, .int l1)]) : W p l e (gRm 8) s m args below meth c H locs 0 0 (MQ below (gQc 1 D cA ad st' (some (.int r))) args s 0 0 (gA 1 ad)) (F0 m 283 ls []) := by
  obtain ⟨hx, hb, hml, hown, hts⟩ := id hC
  unfold fX11_treaty_283 at hf
  refine lv_iload_n (pc := 283) hx hb dX11_treaty_283 rfl (lv_at hl 1 rfl) ?_
  refine lv_bipush (v := 18) (pc := 284) hx hb dX11_treaty_284 (by decide) ?_
  refine lv_icmp_ge (tgt := 302) (pc := 286) hx hb dX11_treaty_286 (by decide) (fun hc => ?_) (fun hc => ?_)
  · have hf := gif_p hc hf
    refine lv_aload_n (pc := 302) hx hb dX11_treaty_302 rfl (lv_at hl 0 rfl) ?_
    refine g_get (pc := 303) (v := .ref (ad 28)) hC hU hH gk1_0 g_cl11 55 (by decide) kf_X11_100 rfl dX11_treaty_303 ?_
    refine lv_iconst (v := 0) (pc := 306) hx hb dX11_treaty_306 (by decide) ?_
    refine lv_aload_n (pc := 307) hx hb dX11_treaty_307 rfl (lv_at hl 0 rfl) ?_
    refine g_get (pc := 308) (v := .int (st.1 0 48)) hC hU hH gk1_0 g_cl11 48 (by decide) kf_X11_392 rfl dX11_treaty_308 ?_
    refine lv_if_ne (tgt := 318) (pc := 311) hx hb dX11_treaty_311 (by decide) (fun hc => ?_) (fun hc => ?_)
    · have hf := gif_n hc hf
      refine lv_iconst (v := 0) (pc := 318) hx hb dX11_treaty_318 (by decide) ?_
      exact bX11_treaty_319 hC hret hlk hU hf hH hS (lv_sub hl [0] rfl)
    · have hf := gif_p hc hf
      refine lv_iconst (v := (-1)) (pc := 314) hx hb dX11_treaty_314 (by decide) ?_
      refine lv_goto (tgt := 319) (pc := 315) hx hb dX11_treaty_315 (by decide) ?_
      exact bX11_treaty_319 hC hret hlk hU hf hH hS (lv_sub hl [0] rfl)
  · have hf := gif_n hc hf
    refine lv_aload_n (pc := 289) hx hb dX11_treaty_289 rfl (lv_at hl 0 rfl) ?_
    refine g_get (pc := 290) (v := .ref (ad 28)) hC hU hH gk1_0 g_cl11 55 (by decide) kf_X11_100 rfl dX11_treaty_290 ?_
    refine lv_iload_n (pc := 293) hx hb dX11_treaty_293 rfl (lv_at hl 1 rfl) ?_
    refine lv_iconst (v := 0) (pc := 294) hx hb dX11_treaty_294 (by decide) ?_
    obtain ⟨h283_1, hf⟩ := gc_s hf
    refine g_iast (pc := 295) hC hU hH hS gk1_28 gn1_28 h283_1 dX11_treaty_295 (fun H locs hH hS => ?_)
    refine lv_iinc (v := l1 + 1) (lv' := [(1, .int (l1 + 1)), (0, .ref (ad 0))]) (k := 1) (pc := 296) hx hb dX11_treaty_296 hl rfl rfl (by decide) rfl (fun ls hl => ?_)
    refine lv_goto (tgt := 283) (pc := 299) hx hb dX11_treaty_299 (by decide) ?_
    exact hk283 hf hH hS (lv_sub hl [1, 0] rfl)
def hX11_treaty_283   : Nat → Int32 → gS → Option (Int32 × gS)
  | 0 => fun _ _ => none
  | n + 1 => fun l1 st => fX11_treaty_283 (hX11_treaty_283  n) l1 st
set_option maxRecDepth 100000 in
set_option maxHeartbeats 4000000 in
theorem wX11_treaty_283  (hC : CallFix p m c cX11_treaty 2 s args lw_good RX11) (hret : meth.sig.returnType = (some .int)) (hlk : meth.locks = false) (hU : gU 1 D cA ad s)  {r : Int32} {st' : gS}  : ∀ (n : Nat) {l1 : Int32} {st : gS} {H : Heap} {locs : List Loc} {ls : Array Slot}, hX11_treaty_283  n l1 st = some (r, st') → gP0 1 D cA ad st H → va_S (gA 1 ad) s.heap H locs → lv_has ls 2 [(0, .ref (ad 0)), (1, .int l1)] → W p l e (gRm 8) s m args below meth c H locs 0 0 (MQ below (gQc 1 D cA ad st' (some (.int r))) args s 0 0 (gA 1 ad)) (F0 m 283 ls []) := by
  intro n
  induction n with
  | zero => intro l1 st H locs ls hf hH hS hl; cases hf
  | succ n ih =>
    intro l1 st H locs ls hf hH hS hl
    exact bX11_treaty_283  hC hret hlk hU (fun hf hH hS hl => ih hf hH hS hl) hf hH hS hl
def fX11_treaty_207  (k207 : Int32 → gS → Option (Int32 × gS)) (l1 : Int32) (st : gS) : Option (Int32 × gS) :=
  if (st.1 0 50) ≤ l1 then (hX11_treaty_283 FU 0 st) else (gc (gI l1 16) (gc (gI l1 16) (gc (gI l1 16) (gc (gI l1 16) (gc (gI l1 16) (gc (gI l1 16) (gc (gI l1 16) (gc (gI l1 16) (gc (gI l1 16) (gc (gI l1 16) (k207 (l1 + 1) (wi (wi (wi (wi (wi st 21 l1.toNatClampNeg (st.1 16 l1.toNatClampNeg)) 22 l1.toNatClampNeg ((wi st 21 l1.toNatClampNeg (st.1 16 l1.toNatClampNeg)).1 17 l1.toNatClampNeg)) 23 l1.toNatClampNeg ((wi (wi st 21 l1.toNatClampNeg (st.1 16 l1.toNatClampNeg)) 22 l1.toNatClampNeg ((wi st 21 l1.toNatClampNeg (st.1 16 l1.toNatClampNeg)).1 17 l1.toNatClampNeg)).1 18 l1.toNatClampNeg)) 24 l1.toNatClampNeg ((wi (wi (wi st 21 l1.toNatClampNeg (st.1 16 l1.toNatClampNeg)) 22 l1.toNatClampNeg ((wi st 21 l1.toNatClampNeg (st.1 16 l1.toNatClampNeg)).1 17 l1.toNatClampNeg)) 23 l1.toNatClampNeg ((wi (wi st 21 l1.toNatClampNeg (st.1 16 l1.toNatClampNeg)) 22 l1.toNatClampNeg ((wi st 21 l1.toNatClampNeg (st.1 16 l1.toNatClampNeg)).1 17 l1.toNatClampNeg)).1 18 l1.toNatClampNeg)).1 19 l1.toNatClampNeg)) 25 l1.toNatClampNeg ((wi (wi (wi (wi st 21 l1.toNatClampNeg (st.1 16 l1.toNatClampNeg)) 22 l1.toNatClampNeg ((wi st 21 l1.toNatClampNeg (st.1 16 l1.toNatClampNeg)).1 17 l1.toNatClampNeg)) 23 l1.toNatClampNeg ((wi (wi st 21 l1.toNatClampNeg (st.1 16 l1.toNatClampNeg)) 22 l1.toNatClampNeg ((wi st 21 l1.toNatClampNeg (st.1 16 l1.toNatClampNeg)).1 17 l1.toNatClampNeg)).1 18 l1.toNatClampNeg)) 24 l1.toNatClampNeg ((wi (wi (wi st 21 l1.toNatClampNeg (st.1 16 l1.toNatClampNeg)) 22 l1.toNatClampNeg ((wi st 21 l1.toNatClampNeg (st.1 16 l1.toNatClampNeg)).1 17 l1.toNatClampNeg)) 23 l1.toNatClampNeg ((wi (wi st 21 l1.toNatClampNeg (st.1 16 l1.toNatClampNeg)) 22 l1.toNatClampNeg ((wi st 21 l1.toNatClampNeg (st.1 16 l1.toNatClampNeg)).1 17 l1.toNatClampNeg)).1 18 l1.toNatClampNeg)).1 19 l1.toNatClampNeg)).1 20 l1.toNatClampNeg)))))))))))))
set_option maxRecDepth 100000 in
set_option maxHeartbeats 4000000 in
theorem bX11_treaty_207  (hC : CallFix p m c cX11_treaty 2 s args lw_good RX11) (hret : meth.sig.returnType = (some .int)) (hlk : meth.locks = false) (hU : gU 1 D cA ad s)  {r : Int32} {st' : gS} {k207 : Int32 → gS → Option (Int32 × gS)} (hk207 : ∀ {l1 : Int32} {st : gS} {H : Heap} {locs : List Loc} {ls : Array Slot}, k207 l1 st = some (r, st') → gP0 1 D cA ad st H → va_S (gA 1 ad) s.heap H locs → lv_has ls 2 [(0, .ref (ad 0)), (1, .int l1)] → W p l e (gRm 8) s m args below meth c H locs 0 0 (MQ below (gQc 1 D cA ad st' (some (.int r))) args s 0 0 (gA 1 ad)) (F0 m 207 ls [])) {l1 : Int32} {st : gS} {H : Heap} {locs : List Loc} {ls : Array Slot} (hf : fX11_treaty_207 k207 l1 st = some (r, st')) (hH : gP0 1 D cA ad st H) (hS : va_S (gA 1 ad) s.heap H locs) (hl : lv_has ls 2 [(0, .ref (ad 0)), (1, .int l1)]) : W p l e (gRm 8) s m args below meth c H locs 0 0 (MQ below (gQc 1 D cA ad st' (some (.int r))) args s 0 0 (gA 1 ad)) (F0 m 207 ls []) := by
  obtain ⟨hx, hb, hml, hown, hts⟩ := id hC
  unfold fX11_treaty_207 at hf
  refine lv_iload_n (pc := 207) hx hb dX11_treaty_207 rfl (lv_at hl 1 rfl) ?_
  refine lv_aload_n (pc := 208) hx hb dX11_treaty_208 rfl (lv_at hl 0 rfl) ?_
  refine g_get (pc := 209) (v := .int (st.1 0 50)) hC hU hH gk1_0 g_cl11 50 (by decide) kf_X11_398 rfl dX11_treaty_209 ?_
  refine lv_icmp_ge (tgt := 281) (pc := 212) hx hb dX11_treaty_212 (by decide) (fun hc => ?_) (fun hc => ?_)
  · have hf := gif_p hc hf
    refine lv_iconst (v := 0) (pc := 281) hx hb dX11_treaty_281 (by decide) ?_
    refine lv_istore_n (lv' := [(1, .int 0), (0, .ref (ad 0))]) (pc := 282) hx hb dX11_treaty_282 rfl hl (by decide) rfl (fun ls hl => ?_)
    exact wX11_treaty_283 hC hret hlk hU FU hf hH hS (lv_sub hl [1, 0] rfl)
  · have hf := gif_n hc hf
    refine lv_aload_n (pc := 215) hx hb dX11_treaty_215 rfl (lv_at hl 0 rfl) ?_
    refine g_get (pc := 216) (v := .ref (ad 21)) hC hU hH gk1_0 g_cl11 36 (by decide) kf_X11_75 rfl dX11_treaty_216 ?_
    refine lv_iload_n (pc := 219) hx hb dX11_treaty_219 rfl (lv_at hl 1 rfl) ?_
    refine lv_aload_n (pc := 220) hx hb dX11_treaty_220 rfl (lv_at hl 0 rfl) ?_
    refine g_get (pc := 221) (v := .ref (ad 16)) hC hU hH gk1_0 g_cl11 31 (by decide) kf_X11_60 rfl dX11_treaty_221 ?_
    refine lv_iload_n (pc := 224) hx hb dX11_treaty_224 rfl (lv_at hl 1 rfl) ?_
    obtain ⟨h207_1, hf⟩ := gc_s hf
    refine g_iald (pc := 225) hC hU hH gk1_16 gn1_16 h207_1 dX11_treaty_225 ?_
    obtain ⟨h207_2, hf⟩ := gc_s hf
    refine g_iast (pc := 226) hC hU hH hS gk1_21 gn1_21 h207_2 dX11_treaty_226 (fun H locs hH hS => ?_)
    refine lv_aload_n (pc := 227) hx hb dX11_treaty_227 rfl (lv_at hl 0 rfl) ?_
    refine g_get (pc := 228) (v := .ref (ad 22)) hC hU hH gk1_0 g_cl11 37 (by decide) kf_X11_78 rfl dX11_treaty_228 ?_
    refine lv_iload_n (pc := 231) hx hb dX11_treaty_231 rfl (lv_at hl 1 rfl) ?_
    refine lv_aload_n (pc := 232) hx hb dX11_treaty_232 rfl (lv_at hl 0 rfl) ?_
    refine g_get (pc := 233) (v := .ref (ad 17)) hC hU hH gk1_0 g_cl11 32 (by decide) kf_X11_63 rfl dX11_treaty_233 ?_
    refine lv_iload_n (pc := 236) hx hb dX11_treaty_236 rfl (lv_at hl 1 rfl) ?_
    obtain ⟨h207_3, hf⟩ := gc_s hf
    refine g_iald (pc := 237) hC hU hH gk1_17 gn1_17 h207_3 dX11_treaty_237 ?_
    obtain ⟨h207_4, hf⟩ := gc_s hf
    refine g_iast (pc := 238) hC hU hH hS gk1_22 gn1_22 h207_4 dX11_treaty_238 (fun H locs hH hS => ?_)
    refine lv_aload_n (pc := 239) hx hb dX11_treaty_239 rfl (lv_at hl 0 rfl) ?_
    refine g_get (pc := 240) (v := .ref (ad 23)) hC hU hH gk1_0 g_cl11 38 (by decide) kf_X11_81 rfl dX11_treaty_240 ?_
    refine lv_iload_n (pc := 243) hx hb dX11_treaty_243 rfl (lv_at hl 1 rfl) ?_
    refine lv_aload_n (pc := 244) hx hb dX11_treaty_244 rfl (lv_at hl 0 rfl) ?_
    refine g_get (pc := 245) (v := .ref (ad 18)) hC hU hH gk1_0 g_cl11 33 (by decide) kf_X11_66 rfl dX11_treaty_245 ?_
    refine lv_iload_n (pc := 248) hx hb dX11_treaty_248 rfl (lv_at hl 1 rfl) ?_
    obtain ⟨h207_5, hf⟩ := gc_s hf
    refine g_iald (pc := 249) hC hU hH gk1_18 gn1_18 h207_5 dX11_treaty_249 ?_
    obtain ⟨h207_6, hf⟩ := gc_s hf
    refine g_iast (pc := 250) hC hU hH hS gk1_23 gn1_23 h207_6 dX11_treaty_250 (fun H locs hH hS => ?_)
    refine lv_aload_n (pc := 251) hx hb dX11_treaty_251 rfl (lv_at hl 0 rfl) ?_
    refine g_get (pc := 252) (v := .ref (ad 24)) hC hU hH gk1_0 g_cl11 39 (by decide) kf_X11_84 rfl dX11_treaty_252 ?_
    refine lv_iload_n (pc := 255) hx hb dX11_treaty_255 rfl (lv_at hl 1 rfl) ?_
    refine lv_aload_n (pc := 256) hx hb dX11_treaty_256 rfl (lv_at hl 0 rfl) ?_
    refine g_get (pc := 257) (v := .ref (ad 19)) hC hU hH gk1_0 g_cl11 34 (by decide) kf_X11_69 rfl dX11_treaty_257 ?_
    refine lv_iload_n (pc := 260) hx hb dX11_treaty_260 rfl (lv_at hl 1 rfl) ?_
    obtain ⟨h207_7, hf⟩ := gc_s hf
    refine g_iald (pc := 261) hC hU hH gk1_19 gn1_19 h207_7 dX11_treaty_261 ?_
    obtain ⟨h207_8, hf⟩ := gc_s hf
    refine g_iast (pc := 262) hC hU hH hS gk1_24 gn1_24 h207_8 dX11_treaty_262 (fun H locs hH hS => ?_)
    refine lv_aload_n (pc := 263) hx hb dX11_treaty_263 rfl (lv_at hl 0 rfl) ?_
    refine g_get (pc := 264) (v := .ref (ad 25)) hC hU hH gk1_0 g_cl11 40 (by decide) kf_X11_87 rfl dX11_treaty_264 ?_
    refine lv_iload_n (pc := 267) hx hb dX11_treaty_267 rfl (lv_at hl 1 rfl) ?_
    refine lv_aload_n (pc := 268) hx hb dX11_treaty_268 rfl (lv_at hl 0 rfl) ?_
    refine g_get (pc := 269) (v := .ref (ad 20)) hC hU hH gk1_0 g_cl11 35 (by decide) kf_X11_72 rfl dX11_treaty_269 ?_
    refine lv_iload_n (pc := 272) hx hb dX11_treaty_272 rfl (lv_at hl 1 rfl) ?_
    obtain ⟨h207_9, hf⟩ := gc_s hf
    refine g_iald (pc := 273) hC hU hH gk1_20 gn1_20 h207_9 dX11_treaty_273 ?_
    obtain ⟨h207_10, hf⟩ := gc_s hf
    refine g_iast (pc := 274) hC hU hH hS gk1_25 gn1_25 h207_10 dX11_treaty_274 (fun H locs hH hS => ?_)
    refine lv_iinc (v := l1 + 1) (lv' := [(1, .int (l1 + 1)), (0, .ref (ad 0))]) (k := 1) (pc := 275) hx hb dX11_treaty_275 hl rfl rfl (by decide) rfl (fun ls hl => ?_)
    refine lv_goto (tgt := 207) (pc := 278) hx hb dX11_treaty_278 (by decide) ?_
    exact hk207 hf hH hS (lv_sub hl [1, 0] rfl)
def hX11_treaty_207   : Nat → Int32 → gS → Option (Int32 × gS)
  | 0 => fun _ _ => none
  | n + 1 => fun l1 st => fX11_treaty_207 (hX11_treaty_207  n) l1 st
set_option maxRecDepth 100000 in
set_option maxHeartbeats 4000000 in
theorem wX11_treaty_207  (hC : CallFix p m c cX11_treaty 2 s args lw_good RX11) (hret : meth.sig.returnType = (some .int)) (hlk : meth.locks = false) (hU : gU 1 D cA ad s)  {r : Int32} {st' : gS}  : ∀ (n : Nat) {l1 : Int32} {st : gS} {H : Heap} {locs : List Loc} {ls : Array Slot}, hX11_treaty_207  n l1 st = some (r, st') → gP0 1 D cA ad st H → va_S (gA 1 ad) s.heap H locs → lv_has ls 2 [(0, .ref (ad 0)), (1, .int l1)] → W p l e (gRm 8) s m args below meth c H locs 0 0 (MQ below (gQc 1 D cA ad st' (some (.int r))) args s 0 0 (gA 1 ad)) (F0 m 207 ls []) := by
  intro n
  induction n with
  | zero => intro l1 st H locs ls hf hH hS hl; cases hf
  | succ n ih =>
    intro l1 st H locs ls hf hH hS hl
    exact bX11_treaty_207  hC hret hlk hU (fun hf hH hS hl => ih hf hH hS hl) hf hH hS hl
def fX11_treaty_198  (k163 : Int32 → gS → Option (Int32 × gS)) (l1 : Int32) (s0 : Int32) (s1 : Int32) (st : gS) : Option (Int32 × gS) :=
  gc (gI s1 40) (k163 (l1 + 1) (wi st 15 s1.toNatClampNeg s0))
set_option maxRecDepth 100000 in
set_option maxHeartbeats 4000000 in
theorem bX11_treaty_198  (hC : CallFix p m c cX11_treaty 2 s args lw_good RX11) (hret : meth.sig.returnType = (some .int)) (hlk : meth.locks = false) (hU : gU 1 D cA ad s)  {r : Int32} {st' : gS} {k163 : Int32 → gS → Option (Int32 × gS)} (hk163 : ∀ {l1 : Int32} {st : gS} {H : Heap} {locs : List Loc} {ls : Array Slot}, k163 l1 st = some (r, st') → gP0 1 D cA ad st H → va_S (gA 1 ad) s.heap H locs → lv_has ls 2 [(0, .ref (ad 0)), (1, .int l1)] → W p l e (gRm 8) s m args below meth c H locs 0 0 (MQ below (gQc 1 D cA ad st' (some (.int r))) args s 0 0 (gA 1 ad)) (F0 m 163 ls [])) {l1 : Int32} {s0 : Int32} {s1 : Int32} {st : gS} {H : Heap} {locs : List Loc} {ls : Array Slot} (hf : fX11_treaty_198 k163 l1 s0 s1 st = some (r, st')) (hH : gP0 1 D cA ad st H) (hS : va_S (gA 1 ad) s.heap H locs) (hl : lv_has ls 2 [(0, .ref (ad 0)), (1, .int l1)]) : W p l e (gRm 8) s m args below meth c H locs 0 0 (MQ below (gQc 1 D cA ad st' (some (.int r))) args s 0 0 (gA 1 ad)) (F0 m 198 ls [.int s0, .int s1, .ref (ad 15)]) := by
  obtain ⟨hx, hb, hml, hown, hts⟩ := id hC
  unfold fX11_treaty_198 at hf
  obtain ⟨h198_1, hf⟩ := gc_s hf
  refine g_iast (pc := 198) hC hU hH hS gk1_15 gn1_15 h198_1 dX11_treaty_198 (fun H locs hH hS => ?_)
  refine lv_iinc (v := l1 + 1) (lv' := [(1, .int (l1 + 1)), (0, .ref (ad 0))]) (k := 1) (pc := 199) hx hb dX11_treaty_199 hl rfl rfl (by decide) rfl (fun ls hl => ?_)
  refine lv_goto (tgt := 163) (pc := 202) hx hb dX11_treaty_202 (by decide) ?_
  exact hk163 hf hH hS (lv_sub hl [1, 0] rfl)
def fX11_treaty_163  (k163 : Int32 → gS → Option (Int32 × gS)) (l1 : Int32) (st : gS) : Option (Int32 × gS) :=
  if (8 * (st.1 0 49)) ≤ l1 then (hX11_treaty_207 FU 0 st) else (gc (gI l1 40) (if 0 ≤ (st.1 14 l1.toNatClampNeg) then (gc (gI l1 40) (fX11_treaty_198 k163 l1 (st.1 14 l1.toNatClampNeg) l1 st)) else (fX11_treaty_198 k163 l1 0 l1 st)))
set_option maxRecDepth 100000 in
set_option maxHeartbeats 4000000 in
theorem bX11_treaty_163  (hC : CallFix p m c cX11_treaty 2 s args lw_good RX11) (hret : meth.sig.returnType = (some .int)) (hlk : meth.locks = false) (hU : gU 1 D cA ad s)  {r : Int32} {st' : gS} {k163 : Int32 → gS → Option (Int32 × gS)} (hk163 : ∀ {l1 : Int32} {st : gS} {H : Heap} {locs : List Loc} {ls : Array Slot}, k163 l1 st = some (r, st') → gP0 1 D cA ad st H → va_S (gA 1 ad) s.heap H locs → lv_has ls 2 [(0, .ref (ad 0)), (1, .int l1)] → W p l e (gRm 8) s m args below meth c H locs 0 0 (MQ below (gQc 1 D cA ad st' (some (.int r))) args s 0 0 (gA 1 ad)) (F0 m 163 ls [])) {l1 : Int32} {st : gS} {H : Heap} {locs : List Loc} {ls : Array Slot} (hf : fX11_treaty_163 k163 l1 st = some (r, st')) (hH : gP0 1 D cA ad st H) (hS : va_S (gA 1 ad) s.heap H locs) (hl : lv_has ls 2 [(0, .ref (ad 0)), (1, .int l1)]) : W p l e (gRm 8) s m args below meth c H locs 0 0 (MQ below (gQc 1 D cA ad st' (some (.int r))) args s 0 0 (gA 1 ad)) (F0 m 163 ls []) := by
  obtain ⟨hx, hb, hml, hown, hts⟩ := id hC
  unfold fX11_treaty_163 at hf
  refine lv_iload_n (pc := 163) hx hb dX11_treaty_163 rfl (lv_at hl 1 rfl) ?_
  refine lv_bipush (v := 8) (pc := 164) hx hb dX11_treaty_164 (by decide) ?_
  refine lv_aload_n (pc := 166) hx hb dX11_treaty_166 rfl (lv_at hl 0 rfl) ?_
  refine g_get (pc := 167) (v := .int (st.1 0 49)) hC hU hH gk1_0 g_cl11 49 (by decide) kf_X11_395 rfl dX11_treaty_167 ?_
  refine lv_imul (pc := 170) hx hb dX11_treaty_170 ?_
  refine lv_icmp_ge (tgt := 205) (pc := 171) hx hb dX11_treaty_171 (by decide) (fun hc => ?_) (fun hc => ?_)
  · have hf := gif_p hc hf
    refine lv_iconst (v := 0) (pc := 205) hx hb dX11_treaty_205 (by decide) ?_
    refine lv_istore_n (lv' := [(1, .int 0), (0, .ref (ad 0))]) (pc := 206) hx hb dX11_treaty_206 rfl hl (by decide) rfl (fun ls hl => ?_)
    exact wX11_treaty_207 hC hret hlk hU FU hf hH hS (lv_sub hl [1, 0] rfl)
  · have hf := gif_n hc hf
    refine lv_aload_n (pc := 174) hx hb dX11_treaty_174 rfl (lv_at hl 0 rfl) ?_
    refine g_get (pc := 175) (v := .ref (ad 15)) hC hU hH gk1_0 g_cl11 30 (by decide) kf_X11_57 rfl dX11_treaty_175 ?_
    refine lv_iload_n (pc := 178) hx hb dX11_treaty_178 rfl (lv_at hl 1 rfl) ?_
    refine lv_aload_n (pc := 179) hx hb dX11_treaty_179 rfl (lv_at hl 0 rfl) ?_
    refine g_get (pc := 180) (v := .ref (ad 14)) hC hU hH gk1_0 g_cl11 29 (by decide) kf_X11_54 rfl dX11_treaty_180 ?_
    refine lv_iload_n (pc := 183) hx hb dX11_treaty_183 rfl (lv_at hl 1 rfl) ?_
    obtain ⟨h163_1, hf⟩ := gc_s hf
    refine g_iald (pc := 184) hC hU hH gk1_14 gn1_14 h163_1 dX11_treaty_184 ?_
    refine lv_if_ge (tgt := 192) (pc := 185) hx hb dX11_treaty_185 (by decide) (fun hc => ?_) (fun hc => ?_)
    · have hf := gif_p hc hf
      refine lv_aload_n (pc := 192) hx hb dX11_treaty_192 rfl (lv_at hl 0 rfl) ?_
      refine g_get (pc := 193) (v := .ref (ad 14)) hC hU hH gk1_0 g_cl11 29 (by decide) kf_X11_54 rfl dX11_treaty_193 ?_
      refine lv_iload_n (pc := 196) hx hb dX11_treaty_196 rfl (lv_at hl 1 rfl) ?_
      obtain ⟨h163_2, hf⟩ := gc_s hf
      refine g_iald (pc := 197) hC hU hH gk1_14 gn1_14 h163_2 dX11_treaty_197 ?_
      exact bX11_treaty_198 hC hret hlk hU hk163 hf hH hS (lv_sub hl [0, 1] rfl)
    · have hf := gif_n hc hf
      refine lv_iconst (v := 0) (pc := 188) hx hb dX11_treaty_188 (by decide) ?_
      refine lv_goto (tgt := 198) (pc := 189) hx hb dX11_treaty_189 (by decide) ?_
      exact bX11_treaty_198 hC hret hlk hU hk163 hf hH hS (lv_sub hl [0, 1] rfl)
def hX11_treaty_163   : Nat → Int32 → gS → Option (Int32 × gS)
  | 0 => fun _ _ => none
  | n + 1 => fun l1 st => fX11_treaty_163 (hX11_treaty_163  n) l1 st
set_option maxRecDepth 100000 in
set_option maxHeartbeats 4000000 in
theorem wX11_treaty_163  (hC : CallFix p m c cX11_treaty 2 s args lw_good RX11) (hret : meth.sig.returnType = (some .int)) (hlk : meth.locks = false) (hU : gU 1 D cA ad s)  {r : Int32} {st' : gS}  : ∀ (n : Nat) {l1 : Int32} {st : gS} {H : Heap} {locs : List Loc} {ls : Array Slot}, hX11_treaty_163  n l1 st = some (r, st') → gP0 1 D cA ad st H → va_S (gA 1 ad) s.heap H locs → lv_has ls 2 [(0, .ref (ad 0)), (1, .int l1)] → W p l e (gRm 8) s m args below meth c H locs 0 0 (MQ below (gQc 1 D cA ad st' (some (.int r))) args s 0 0 (gA 1 ad)) (F0 m 163 ls []) := by
  intro n
  induction n with
  | zero => intro l1 st H locs ls hf hH hS hl; cases hf
  | succ n ih =>
    intro l1 st H locs ls hf hH hS hl
    exact bX11_treaty_163  hC hret hlk hU (fun hf hH hS hl => ih hf hH hS hl) hf hH hS hl
def fX11_treaty_114  (k114 : Int32 → gS → Option (Int32 × gS)) (l1 : Int32) (st : gS) : Option (Int32 × gS) :=
  if 5 ≤ l1 then (hX11_treaty_163 FU 0 st) else (gc (gI l1 5) (gc (gI l1 5) (gc (gI l1 5) (gc (gI l1 5) (gc (gI l1 5) (gc (gI l1 5) (k114 (l1 + 1) (wi (wi (wi st 12 l1.toNatClampNeg (st.1 10 l1.toNatClampNeg)) 13 l1.toNatClampNeg ((wi st 12 l1.toNatClampNeg (st.1 10 l1.toNatClampNeg)).1 11 l1.toNatClampNeg)) 27 l1.toNatClampNeg (vp_nar .boolean ((wi (wi st 12 l1.toNatClampNeg (st.1 10 l1.toNatClampNeg)) 13 l1.toNatClampNeg ((wi st 12 l1.toNatClampNeg (st.1 10 l1.toNatClampNeg)).1 11 l1.toNatClampNeg)).1 26 l1.toNatClampNeg))))))))))
set_option maxRecDepth 100000 in
set_option maxHeartbeats 4000000 in
theorem bX11_treaty_114  (hC : CallFix p m c cX11_treaty 2 s args lw_good RX11) (hret : meth.sig.returnType = (some .int)) (hlk : meth.locks = false) (hU : gU 1 D cA ad s)  {r : Int32} {st' : gS} {k114 : Int32 → gS → Option (Int32 × gS)} (hk114 : ∀ {l1 : Int32} {st : gS} {H : Heap} {locs : List Loc} {ls : Array Slot}, k114 l1 st = some (r, st') → gP0 1 D cA ad st H → va_S (gA 1 ad) s.heap H locs → lv_has ls 2 [(0, .ref (ad 0)), (1, .int l1)] → W p l e (gRm 8) s m args below meth c H locs 0 0 (MQ below (gQc 1 D cA ad st' (some (.int r))) args s 0 0 (gA 1 ad)) (F0 m 114 ls [])) {l1 : Int32} {st : gS} {H : Heap} {locs : List Loc} {ls : Array Slot} (hf : fX11_treaty_114 k114 l1 st = some (r, st')) (hH : gP0 1 D cA ad st H) (hS : va_S (gA 1 ad) s.heap H locs) (hl : lv_has ls 2 [(0, .ref (ad 0)), (1, .int l1)]) : W p l e (gRm 8) s m args below meth c H locs 0 0 (MQ below (gQc 1 D cA ad st' (some (.int r))) args s 0 0 (gA 1 ad)) (F0 m 114 ls []) := by
  obtain ⟨hx, hb, hml, hown, hts⟩ := id hC
  unfold fX11_treaty_114 at hf
  refine lv_iload_n (pc := 114) hx hb dX11_treaty_114 rfl (lv_at hl 1 rfl) ?_
  refine lv_iconst (v := 5) (pc := 115) hx hb dX11_treaty_115 (by decide) ?_
  refine lv_icmp_ge (tgt := 161) (pc := 116) hx hb dX11_treaty_116 (by decide) (fun hc => ?_) (fun hc => ?_)
  · have hf := gif_p hc hf
    refine lv_iconst (v := 0) (pc := 161) hx hb dX11_treaty_161 (by decide) ?_
    refine lv_istore_n (lv' := [(1, .int 0), (0, .ref (ad 0))]) (pc := 162) hx hb dX11_treaty_162 rfl hl (by decide) rfl (fun ls hl => ?_)
    exact wX11_treaty_163 hC hret hlk hU FU hf hH hS (lv_sub hl [1, 0] rfl)
  · have hf := gif_n hc hf
    refine lv_aload_n (pc := 119) hx hb dX11_treaty_119 rfl (lv_at hl 0 rfl) ?_
    refine g_get (pc := 120) (v := .ref (ad 12)) hC hU hH gk1_0 g_cl11 27 (by decide) kf_X11_48 rfl dX11_treaty_120 ?_
    refine lv_iload_n (pc := 123) hx hb dX11_treaty_123 rfl (lv_at hl 1 rfl) ?_
    refine lv_aload_n (pc := 124) hx hb dX11_treaty_124 rfl (lv_at hl 0 rfl) ?_
    refine g_get (pc := 125) (v := .ref (ad 10)) hC hU hH gk1_0 g_cl11 25 (by decide) kf_X11_42 rfl dX11_treaty_125 ?_
    refine lv_iload_n (pc := 128) hx hb dX11_treaty_128 rfl (lv_at hl 1 rfl) ?_
    obtain ⟨h114_1, hf⟩ := gc_s hf
    refine g_iald (pc := 129) hC hU hH gk1_10 gn1_10 h114_1 dX11_treaty_129 ?_
    obtain ⟨h114_2, hf⟩ := gc_s hf
    refine g_iast (pc := 130) hC hU hH hS gk1_12 gn1_12 h114_2 dX11_treaty_130 (fun H locs hH hS => ?_)
    refine lv_aload_n (pc := 131) hx hb dX11_treaty_131 rfl (lv_at hl 0 rfl) ?_
    refine g_get (pc := 132) (v := .ref (ad 13)) hC hU hH gk1_0 g_cl11 28 (by decide) kf_X11_51 rfl dX11_treaty_132 ?_
    refine lv_iload_n (pc := 135) hx hb dX11_treaty_135 rfl (lv_at hl 1 rfl) ?_
    refine lv_aload_n (pc := 136) hx hb dX11_treaty_136 rfl (lv_at hl 0 rfl) ?_
    refine g_get (pc := 137) (v := .ref (ad 11)) hC hU hH gk1_0 g_cl11 26 (by decide) kf_X11_45 rfl dX11_treaty_137 ?_
    refine lv_iload_n (pc := 140) hx hb dX11_treaty_140 rfl (lv_at hl 1 rfl) ?_
    obtain ⟨h114_3, hf⟩ := gc_s hf
    refine g_iald (pc := 141) hC hU hH gk1_11 gn1_11 h114_3 dX11_treaty_141 ?_
    obtain ⟨h114_4, hf⟩ := gc_s hf
    refine g_iast (pc := 142) hC hU hH hS gk1_13 gn1_13 h114_4 dX11_treaty_142 (fun H locs hH hS => ?_)
    refine lv_aload_n (pc := 143) hx hb dX11_treaty_143 rfl (lv_at hl 0 rfl) ?_
    refine g_get (pc := 144) (v := .ref (ad 27)) hC hU hH gk1_0 g_cl11 42 (by decide) kf_X11_94 rfl dX11_treaty_144 ?_
    refine lv_iload_n (pc := 147) hx hb dX11_treaty_147 rfl (lv_at hl 1 rfl) ?_
    refine lv_aload_n (pc := 148) hx hb dX11_treaty_148 rfl (lv_at hl 0 rfl) ?_
    refine g_get (pc := 149) (v := .ref (ad 26)) hC hU hH gk1_0 g_cl11 41 (by decide) kf_X11_90 rfl dX11_treaty_149 ?_
    refine lv_iload_n (pc := 152) hx hb dX11_treaty_152 rfl (lv_at hl 1 rfl) ?_
    obtain ⟨h114_5, hf⟩ := gc_s hf
    refine g_zald (pc := 153) hC hU hH gk1_26 gn1_26 h114_5 dX11_treaty_153 ?_
    obtain ⟨h114_6, hf⟩ := gc_s hf
    refine g_zast (pc := 154) hC hU hH hS gk1_27 gn1_27 h114_6 dX11_treaty_154 (fun H locs hH hS => ?_)
    refine lv_iinc (v := l1 + 1) (lv' := [(1, .int (l1 + 1)), (0, .ref (ad 0))]) (k := 1) (pc := 155) hx hb dX11_treaty_155 hl rfl rfl (by decide) rfl (fun ls hl => ?_)
    refine lv_goto (tgt := 114) (pc := 158) hx hb dX11_treaty_158 (by decide) ?_
    exact hk114 hf hH hS (lv_sub hl [1, 0] rfl)
def hX11_treaty_114   : Nat → Int32 → gS → Option (Int32 × gS)
  | 0 => fun _ _ => none
  | n + 1 => fun l1 st => fX11_treaty_114 (hX11_treaty_114  n) l1 st
set_option maxRecDepth 100000 in
set_option maxHeartbeats 4000000 in
theorem wX11_treaty_114  (hC : CallFix p m c cX11_treaty 2 s args lw_good RX11) (hret : meth.sig.returnType = (some .int)) (hlk : meth.locks = false) (hU : gU 1 D cA ad s)  {r : Int32} {st' : gS}  : ∀ (n : Nat) {l1 : Int32} {st : gS} {H : Heap} {locs : List Loc} {ls : Array Slot}, hX11_treaty_114  n l1 st = some (r, st') → gP0 1 D cA ad st H → va_S (gA 1 ad) s.heap H locs → lv_has ls 2 [(0, .ref (ad 0)), (1, .int l1)] → W p l e (gRm 8) s m args below meth c H locs 0 0 (MQ below (gQc 1 D cA ad st' (some (.int r))) args s 0 0 (gA 1 ad)) (F0 m 114 ls []) := by
  intro n
  induction n with
  | zero => intro l1 st H locs ls hf hH hS hl; cases hf
  | succ n ih =>
    intro l1 st H locs ls hf hH hS hl
    exact bX11_treaty_114  hC hret hlk hU (fun hf hH hS hl => ih hf hH hS hl) hf hH hS hl
def fX11_treaty_74  (k74 : Int32 → gS → Option (Int32 × gS)) (l1 : Int32) (st : gS) : Option (Int32 × gS) :=
  if (st.1 0 18) ≤ l1 then (hX11_treaty_114 FU 0 st) else (gc (gI l1 320) (gc (gI l1 320) (gc (gI l1 320) (gc (gI l1 320) (k74 (l1 + 1) (wi (wi st 5 l1.toNatClampNeg (st.1 3 l1.toNatClampNeg)) 6 l1.toNatClampNeg ((wi st 5 l1.toNatClampNeg (st.1 3 l1.toNatClampNeg)).1 4 l1.toNatClampNeg)))))))
set_option maxRecDepth 100000 in
set_option maxHeartbeats 4000000 in
theorem bX11_treaty_74  (hC : CallFix p m c cX11_treaty 2 s args lw_good RX11) (hret : meth.sig.returnType = (some .int)) (hlk : meth.locks = false) (hU : gU 1 D cA ad s)  {r : Int32} {st' : gS} {k74 : Int32 → gS → Option (Int32 × gS)} (hk74 : ∀ {l1 : Int32} {st : gS} {H : Heap} {locs : List Loc} {ls : Array Slot}, k74 l1 st = some (r, st') → gP0 1 D cA ad st H → va_S (gA 1 ad) s.heap H locs → lv_has ls 2 [(0, .ref (ad 0)), (1, .int l1)] → W p l e (gRm 8) s m args below meth c H locs 0 0 (MQ below (gQc 1 D cA ad st' (some (.int r))) args s 0 0 (gA 1 ad)) (F0 m 74 ls [])) {l1 : Int32} {st : gS} {H : Heap} {locs : List Loc} {ls : Array Slot} (hf : fX11_treaty_74 k74 l1 st = some (r, st')) (hH : gP0 1 D cA ad st H) (hS : va_S (gA 1 ad) s.heap H locs) (hl : lv_has ls 2 [(0, .ref (ad 0)), (1, .int l1)]) : W p l e (gRm 8) s m args below meth c H locs 0 0 (MQ below (gQc 1 D cA ad st' (some (.int r))) args s 0 0 (gA 1 ad)) (F0 m 74 ls []) := by
  obtain ⟨hx, hb, hml, hown, hts⟩ := id hC
  unfold fX11_treaty_74 at hf
  refine lv_iload_n (pc := 74) hx hb dX11_treaty_74 rfl (lv_at hl 1 rfl) ?_
  refine lv_aload_n (pc := 75) hx hb dX11_treaty_75 rfl (lv_at hl 0 rfl) ?_
  refine g_get (pc := 76) (v := .int (st.1 0 18)) hC hU hH gk1_0 g_cl11 18 (by decide) kf_X11_329 rfl dX11_treaty_76 ?_
  refine lv_icmp_ge (tgt := 112) (pc := 79) hx hb dX11_treaty_79 (by decide) (fun hc => ?_) (fun hc => ?_)
  · have hf := gif_p hc hf
    refine lv_iconst (v := 0) (pc := 112) hx hb dX11_treaty_112 (by decide) ?_
    refine lv_istore_n (lv' := [(1, .int 0), (0, .ref (ad 0))]) (pc := 113) hx hb dX11_treaty_113 rfl hl (by decide) rfl (fun ls hl => ?_)
    exact wX11_treaty_114 hC hret hlk hU FU hf hH hS (lv_sub hl [1, 0] rfl)
  · have hf := gif_n hc hf
    refine lv_aload_n (pc := 82) hx hb dX11_treaty_82 rfl (lv_at hl 0 rfl) ?_
    refine g_get (pc := 83) (v := .ref (ad 5)) hC hU hH gk1_0 g_cl11 13 (by decide) kf_X11_27 rfl dX11_treaty_83 ?_
    refine lv_iload_n (pc := 86) hx hb dX11_treaty_86 rfl (lv_at hl 1 rfl) ?_
    refine lv_aload_n (pc := 87) hx hb dX11_treaty_87 rfl (lv_at hl 0 rfl) ?_
    refine g_get (pc := 88) (v := .ref (ad 3)) hC hU hH gk1_0 g_cl11 11 (by decide) kf_X11_21 rfl dX11_treaty_88 ?_
    refine lv_iload_n (pc := 91) hx hb dX11_treaty_91 rfl (lv_at hl 1 rfl) ?_
    obtain ⟨h74_1, hf⟩ := gc_s hf
    refine g_iald (pc := 92) hC hU hH gk1_3 gn1_3 h74_1 dX11_treaty_92 ?_
    obtain ⟨h74_2, hf⟩ := gc_s hf
    refine g_iast (pc := 93) hC hU hH hS gk1_5 gn1_5 h74_2 dX11_treaty_93 (fun H locs hH hS => ?_)
    refine lv_aload_n (pc := 94) hx hb dX11_treaty_94 rfl (lv_at hl 0 rfl) ?_
    refine g_get (pc := 95) (v := .ref (ad 6)) hC hU hH gk1_0 g_cl11 14 (by decide) kf_X11_30 rfl dX11_treaty_95 ?_
    refine lv_iload_n (pc := 98) hx hb dX11_treaty_98 rfl (lv_at hl 1 rfl) ?_
    refine lv_aload_n (pc := 99) hx hb dX11_treaty_99 rfl (lv_at hl 0 rfl) ?_
    refine g_get (pc := 100) (v := .ref (ad 4)) hC hU hH gk1_0 g_cl11 12 (by decide) kf_X11_24 rfl dX11_treaty_100 ?_
    refine lv_iload_n (pc := 103) hx hb dX11_treaty_103 rfl (lv_at hl 1 rfl) ?_
    obtain ⟨h74_3, hf⟩ := gc_s hf
    refine g_iald (pc := 104) hC hU hH gk1_4 gn1_4 h74_3 dX11_treaty_104 ?_
    obtain ⟨h74_4, hf⟩ := gc_s hf
    refine g_iast (pc := 105) hC hU hH hS gk1_6 gn1_6 h74_4 dX11_treaty_105 (fun H locs hH hS => ?_)
    refine lv_iinc (v := l1 + 1) (lv' := [(1, .int (l1 + 1)), (0, .ref (ad 0))]) (k := 1) (pc := 106) hx hb dX11_treaty_106 hl rfl rfl (by decide) rfl (fun ls hl => ?_)
    refine lv_goto (tgt := 74) (pc := 109) hx hb dX11_treaty_109 (by decide) ?_
    exact hk74 hf hH hS (lv_sub hl [1, 0] rfl)
def hX11_treaty_74   : Nat → Int32 → gS → Option (Int32 × gS)
  | 0 => fun _ _ => none
  | n + 1 => fun l1 st => fX11_treaty_74 (hX11_treaty_74  n) l1 st
set_option maxRecDepth 100000 in
set_option maxHeartbeats 4000000 in
theorem wX11_treaty_74  (hC : CallFix p m c cX11_treaty 2 s args lw_good RX11) (hret : meth.sig.returnType = (some .int)) (hlk : meth.locks = false) (hU : gU 1 D cA ad s)  {r : Int32} {st' : gS}  : ∀ (n : Nat) {l1 : Int32} {st : gS} {H : Heap} {locs : List Loc} {ls : Array Slot}, hX11_treaty_74  n l1 st = some (r, st') → gP0 1 D cA ad st H → va_S (gA 1 ad) s.heap H locs → lv_has ls 2 [(0, .ref (ad 0)), (1, .int l1)] → W p l e (gRm 8) s m args below meth c H locs 0 0 (MQ below (gQc 1 D cA ad st' (some (.int r))) args s 0 0 (gA 1 ad)) (F0 m 74 ls []) := by
  intro n
  induction n with
  | zero => intro l1 st H locs ls hf hH hS hl; cases hf
  | succ n ih =>
    intro l1 st H locs ls hf hH hS hl
    exact bX11_treaty_74  hC hret hlk hU (fun hf hH hS hl => ih hf hH hS hl) hf hH hS hl
def fX11_treaty_69   (s0 : Int32) (st : gS) : Option (Int32 × gS) :=
  hX11_treaty_74 FU 0 (wi st 0 18 s0)
set_option maxRecDepth 100000 in
set_option maxHeartbeats 4000000 in
theorem bX11_treaty_69  (hC : CallFix p m c cX11_treaty 2 s args lw_good RX11) (hret : meth.sig.returnType = (some .int)) (hlk : meth.locks = false) (hU : gU 1 D cA ad s)  {r : Int32} {st' : gS}  {s0 : Int32} {st : gS} {H : Heap} {locs : List Loc} {ls : Array Slot} (hf : fX11_treaty_69 s0 st = some (r, st')) (hH : gP0 1 D cA ad st H) (hS : va_S (gA 1 ad) s.heap H locs) (hl : lv_has ls 2 [(0, .ref (ad 0))]) : W p l e (gRm 8) s m args below meth c H locs 0 0 (MQ below (gQc 1 D cA ad st' (some (.int r))) args s 0 0 (gA 1 ad)) (F0 m 69 ls [.int s0, .ref (ad 0)]) := by
  obtain ⟨hx, hb, hml, hown, hts⟩ := id hC
  unfold fX11_treaty_69 at hf
  refine g_puti (pc := 69) hC hU hH hS gk1_0 g_cl11 18 (by decide) kf_X11_329 rfl rfl rfl rfl dX11_treaty_69 (fun H locs hH hS => ?_)
  refine lv_iconst (v := 0) (pc := 72) hx hb dX11_treaty_72 (by decide) ?_
  refine lv_istore_n (lv' := [(1, .int 0), (0, .ref (ad 0))]) (pc := 73) hx hb dX11_treaty_73 rfl hl (by decide) rfl (fun ls hl => ?_)
  exact wX11_treaty_74 hC hret hlk hU FU hf hH hS (lv_sub hl [1, 0] rfl)
def fX11_treaty    (st : gS) : Option (Int32 × gS) :=
  (fX11_readAll st).bind fun q0_1 => (if (q0_1.1 0 2) ≤ 0 then (if ((wi (wi (wi (wi (wi q0_1 0 48 (q0_1.1 0 43)) 0 49 ((wi q0_1 0 48 (q0_1.1 0 43)).1 0 44)) 0 50 ((wi (wi q0_1 0 48 (q0_1.1 0 43)) 0 49 ((wi q0_1 0 48 (q0_1.1 0 43)).1 0 44)).1 0 45)) 0 51 ((wi (wi (wi q0_1 0 48 (q0_1.1 0 43)) 0 49 ((wi q0_1 0 48 (q0_1.1 0 43)).1 0 44)) 0 50 ((wi (wi q0_1 0 48 (q0_1.1 0 43)) 0 49 ((wi q0_1 0 48 (q0_1.1 0 43)).1 0 44)).1 0 45)).1 0 46)) 0 21 ((wi (wi (wi (wi q0_1 0 48 (q0_1.1 0 43)) 0 49 ((wi q0_1 0 48 (q0_1.1 0 43)).1 0 44)) 0 50 ((wi (wi q0_1 0 48 (q0_1.1 0 43)) 0 49 ((wi q0_1 0 48 (q0_1.1 0 43)).1 0 44)).1 0 45)) 0 51 ((wi (wi (wi q0_1 0 48 (q0_1.1 0 43)) 0 49 ((wi q0_1 0 48 (q0_1.1 0 43)).1 0 44)) 0 50 ((wi (wi q0_1 0 48 (q0_1.1 0 43)) 0 49 ((wi q0_1 0 48 (q0_1.1 0 43)).1 0 44)).1 0 45)).1 0 46)).1 0 20)).1 0 52) = 0 then (fX11_treaty_69 0 (wi (wi (wi (wi (wi q0_1 0 48 (q0_1.1 0 43)) 0 49 ((wi q0_1 0 48 (q0_1.1 0 43)).1 0 44)) 0 50 ((wi (wi q0_1 0 48 (q0_1.1 0 43)) 0 49 ((wi q0_1 0 48 (q0_1.1 0 43)).1 0 44)).1 0 45)) 0 51 ((wi (wi (wi q0_1 0 48 (q0_1.1 0 43)) 0 49 ((wi q0_1 0 48 (q0_1.1 0 43)).1 0 44)) 0 50 ((wi (wi q0_1 0 48 (q0_1.1 0 43)) 0 49 ((wi q0_1 0 48 (q0_1.1 0 43)).1 0 44)).1 0 45)).1 0 46)) 0 21 ((wi (wi (wi (wi q0_1 0 48 (q0_1.1 0 43)) 0 49 ((wi q0_1 0 48 (q0_1.1 0 43)).1 0 44)) 0 50 ((wi (wi q0_1 0 48 (q0_1.1 0 43)) 0 49 ((wi q0_1 0 48 (q0_1.1 0 43)).1 0 44)).1 0 45)) 0 51 ((wi (wi (wi q0_1 0 48 (q0_1.1 0 43)) 0 49 ((wi q0_1 0 48 (q0_1.1 0 43)).1 0 44)) 0 50 ((wi (wi q0_1 0 48 (q0_1.1 0 43)) 0 49 ((wi q0_1 0 48 (q0_1.1 0 43)).1 0 44)).1 0 45)).1 0 46)).1 0 20))) else (fX11_treaty_69 ((wi (wi (wi (wi (wi q0_1 0 48 (q0_1.1 0 43)) 0 49 ((wi q0_1 0 48 (q0_1.1 0 43)).1 0 44)) 0 50 ((wi (wi q0_1 0 48 (q0_1.1 0 43)) 0 49 ((wi q0_1 0 48 (q0_1.1 0 43)).1 0 44)).1 0 45)) 0 51 ((wi (wi (wi q0_1 0 48 (q0_1.1 0 43)) 0 49 ((wi q0_1 0 48 (q0_1.1 0 43)).1 0 44)) 0 50 ((wi (wi q0_1 0 48 (q0_1.1 0 43)) 0 49 ((wi q0_1 0 48 (q0_1.1 0 43)).1 0 44)).1 0 45)).1 0 46)) 0 21 ((wi (wi (wi (wi q0_1 0 48 (q0_1.1 0 43)) 0 49 ((wi q0_1 0 48 (q0_1.1 0 43)).1 0 44)) 0 50 ((wi (wi q0_1 0 48 (q0_1.1 0 43)) 0 49 ((wi q0_1 0 48 (q0_1.1 0 43)).1 0 44)).1 0 45)) 0 51 ((wi (wi (wi q0_1 0 48 (q0_1.1 0 43)) 0 49 ((wi q0_1 0 48 (q0_1.1 0 43)).1 0 44)) 0 50 ((wi (wi q0_1 0 48 (q0_1.1 0 43)) 0 49 ((wi q0_1 0 48 (q0_1.1 0 43)).1 0 44)).1 0 45)).1 0 46)).1 0 20)).1 0 17) (wi (wi (wi (wi (wi q0_1 0 48 (q0_1.1 0 43)) 0 49 ((wi q0_1 0 48 (q0_1.1 0 43)).1 0 44)) 0 50 ((wi (wi q0_1 0 48 (q0_1.1 0 43)) 0 49 ((wi q0_1 0 48 (q0_1.1 0 43)).1 0 44)).1 0 45)) 0 51 ((wi (wi (wi q0_1 0 48 (q0_1.1 0 43)) 0 49 ((wi q0_1 0 48 (q0_1.1 0 43)).1 0 44)) 0 50 ((wi (wi q0_1 0 48 (q0_1.1 0 43)) 0 49 ((wi q0_1 0 48 (q0_1.1 0 43)).1 0 44)).1 0 45)).1 0 46)) 0 21 ((wi (wi (wi (wi q0_1 0 48 (q0_1.1 0 43)) 0 49 ((wi q0_1 0 48 (q0_1.1 0 43)).1 0 44)) 0 50 ((wi (wi q0_1 0 48 (q0_1.1 0 43)) 0 49 ((wi q0_1 0 48 (q0_1.1 0 43)).1 0 44)).1 0 45)) 0 51 ((wi (wi (wi q0_1 0 48 (q0_1.1 0 43)) 0 49 ((wi q0_1 0 48 (q0_1.1 0 43)).1 0 44)) 0 50 ((wi (wi q0_1 0 48 (q0_1.1 0 43)) 0 49 ((wi q0_1 0 48 (q0_1.1 0 43)).1 0 44)).1 0 45)).1 0 46)).1 0 20)))) else (some ((-1), q0_1)))
set_option maxRecDepth 100000 in
set_option maxHeartbeats 4000000 in
theorem bX11_treaty_0  (hC : CallFix p m c cX11_treaty 2 s args lw_good RX11) (hret : meth.sig.returnType = (some .int)) (hlk : meth.locks = false) (hU : gU 1 D cA ad s)  {r : Int32} {st' : gS}   {st : gS} {H : Heap} {locs : List Loc} {ls : Array Slot} (hf : fX11_treaty st = some (r, st')) (hH : gP0 1 D cA ad st H) (hS : va_S (gA 1 ad) s.heap H locs) (hl : lv_has ls 2 [(0, .ref (ad 0))]) : W p l e (gRm 8) s m args below meth c H locs 0 0 (MQ below (gQc 1 D cA ad st' (some (.int r))) args s 0 0 (gA 1 ad)) (F0 m 0 ls []) := by
  obtain ⟨hx, hb, hml, hown, hts⟩ := id hC
  unfold fX11_treaty at hf
  refine lv_aload_n (pc := 0) hx hb dX11_treaty_0 rfl (lv_at hl 0 rfl) ?_
  obtain ⟨q0_1, hq0_1, hf⟩ := gbd hf
  refine g_callVv (pc := 1) (rest := []) hC hU hH hS hl.1 gk1_0 rfl (by decide) (mX11_readAll  hq0_1) ky_X11_readAll km_X11_389 ⟨Nat.le_of_ble_eq_true rfl, Nat.le_of_ble_eq_true rfl⟩ ⟨Nat.zero_le _, Nat.zero_le _⟩ rfl (Nat.le_of_ble_eq_true rfl) dX11_treaty_1 rfl (fun H locs hH hS => ?_)
  refine lv_aload_n (pc := 4) hx hb dX11_treaty_4 rfl (lv_at hl 0 rfl) ?_
  refine g_get (pc := 5) (v := .int (q0_1.1 0 2)) hC hU hH gk1_0 g_cl11 2 (by decide) kf_X11_197 rfl dX11_treaty_5 ?_
  refine lv_if_le (tgt := 13) (pc := 8) hx hb dX11_treaty_8 (by decide) (fun hc => ?_) (fun hc => ?_)
  · have hf := gif_p hc hf
    refine lv_aload_n (pc := 13) hx hb dX11_treaty_13 rfl (lv_at hl 0 rfl) ?_
    refine lv_aload_n (pc := 14) hx hb dX11_treaty_14 rfl (lv_at hl 0 rfl) ?_
    refine g_get (pc := 15) (v := .int (q0_1.1 0 43)) hC hU hH gk1_0 g_cl11 43 (by decide) kf_X11_266 rfl dX11_treaty_15 ?_
    refine g_puti (pc := 18) hC hU hH hS gk1_0 g_cl11 48 (by decide) kf_X11_392 rfl rfl rfl rfl dX11_treaty_18 (fun H locs hH hS => ?_)
    refine lv_aload_n (pc := 21) hx hb dX11_treaty_21 rfl (lv_at hl 0 rfl) ?_
    refine lv_aload_n (pc := 22) hx hb dX11_treaty_22 rfl (lv_at hl 0 rfl) ?_
    refine g_get (pc := 23) (v := .int ((wi q0_1 0 48 (q0_1.1 0 43)).1 0 44)) hC hU hH gk1_0 g_cl11 44 (by decide) kf_X11_339 rfl dX11_treaty_23 ?_
    refine g_puti (pc := 26) hC hU hH hS gk1_0 g_cl11 49 (by decide) kf_X11_395 rfl rfl rfl rfl dX11_treaty_26 (fun H locs hH hS => ?_)
    refine lv_aload_n (pc := 29) hx hb dX11_treaty_29 rfl (lv_at hl 0 rfl) ?_
    refine lv_aload_n (pc := 30) hx hb dX11_treaty_30 rfl (lv_at hl 0 rfl) ?_
    refine g_get (pc := 31) (v := .int ((wi (wi q0_1 0 48 (q0_1.1 0 43)) 0 49 ((wi q0_1 0 48 (q0_1.1 0 43)).1 0 44)).1 0 45)) hC hU hH gk1_0 g_cl11 45 (by decide) kf_X11_349 rfl dX11_treaty_31 ?_
    refine g_puti (pc := 34) hC hU hH hS gk1_0 g_cl11 50 (by decide) kf_X11_398 rfl rfl rfl rfl dX11_treaty_34 (fun H locs hH hS => ?_)
    refine lv_aload_n (pc := 37) hx hb dX11_treaty_37 rfl (lv_at hl 0 rfl) ?_
    refine lv_aload_n (pc := 38) hx hb dX11_treaty_38 rfl (lv_at hl 0 rfl) ?_
    refine g_get (pc := 39) (v := .int ((wi (wi (wi q0_1 0 48 (q0_1.1 0 43)) 0 49 ((wi q0_1 0 48 (q0_1.1 0 43)).1 0 44)) 0 50 ((wi (wi q0_1 0 48 (q0_1.1 0 43)) 0 49 ((wi q0_1 0 48 (q0_1.1 0 43)).1 0 44)).1 0 45)).1 0 46)) hC hU hH gk1_0 g_cl11 46 (by decide) kf_X11_377 rfl dX11_treaty_39 ?_
    refine g_puti (pc := 42) hC hU hH hS gk1_0 g_cl11 51 (by decide) kf_X11_97 rfl rfl rfl rfl dX11_treaty_42 (fun H locs hH hS => ?_)
    refine lv_aload_n (pc := 45) hx hb dX11_treaty_45 rfl (lv_at hl 0 rfl) ?_
    refine lv_aload_n (pc := 46) hx hb dX11_treaty_46 rfl (lv_at hl 0 rfl) ?_
    refine g_get (pc := 47) (v := .int ((wi (wi (wi (wi q0_1 0 48 (q0_1.1 0 43)) 0 49 ((wi q0_1 0 48 (q0_1.1 0 43)).1 0 44)) 0 50 ((wi (wi q0_1 0 48 (q0_1.1 0 43)) 0 49 ((wi q0_1 0 48 (q0_1.1 0 43)).1 0 44)).1 0 45)) 0 51 ((wi (wi (wi q0_1 0 48 (q0_1.1 0 43)) 0 49 ((wi q0_1 0 48 (q0_1.1 0 43)).1 0 44)) 0 50 ((wi (wi q0_1 0 48 (q0_1.1 0 43)) 0 49 ((wi q0_1 0 48 (q0_1.1 0 43)).1 0 44)).1 0 45)).1 0 46)).1 0 20)) hC hU hH gk1_0 g_cl11 20 (by decide) kf_X11_288 rfl dX11_treaty_47 ?_
    refine g_puti (pc := 50) hC hU hH hS gk1_0 g_cl11 21 (by decide) kf_X11_401 rfl rfl rfl rfl dX11_treaty_50 (fun H locs hH hS => ?_)
    refine lv_aload_n (pc := 53) hx hb dX11_treaty_53 rfl (lv_at hl 0 rfl) ?_
    refine lv_aload_n (pc := 54) hx hb dX11_treaty_54 rfl (lv_at hl 0 rfl) ?_
    refine g_get (pc := 55) (v := .int ((wi (wi (wi (wi (wi q0_1 0 48 (q0_1.1 0 43)) 0 49 ((wi q0_1 0 48 (q0_1.1 0 43)).1 0 44)) 0 50 ((wi (wi q0_1 0 48 (q0_1.1 0 43)) 0 49 ((wi q0_1 0 48 (q0_1.1 0 43)).1 0 44)).1 0 45)) 0 51 ((wi (wi (wi q0_1 0 48 (q0_1.1 0 43)) 0 49 ((wi q0_1 0 48 (q0_1.1 0 43)).1 0 44)) 0 50 ((wi (wi q0_1 0 48 (q0_1.1 0 43)) 0 49 ((wi q0_1 0 48 (q0_1.1 0 43)).1 0 44)).1 0 45)).1 0 46)) 0 21 ((wi (wi (wi (wi q0_1 0 48 (q0_1.1 0 43)) 0 49 ((wi q0_1 0 48 (q0_1.1 0 43)).1 0 44)) 0 50 ((wi (wi q0_1 0 48 (q0_1.1 0 43)) 0 49 ((wi q0_1 0 48 (q0_1.1 0 43)).1 0 44)).1 0 45)) 0 51 ((wi (wi (wi q0_1 0 48 (q0_1.1 0 43)) 0 49 ((wi q0_1 0 48 (q0_1.1 0 43)).1 0 44)) 0 50 ((wi (wi q0_1 0 48 (q0_1.1 0 43)) 0 49 ((wi q0_1 0 48 (q0_1.1 0 43)).1 0 44)).1 0 45)).1 0 46)).1 0 20)).1 0 52)) hC hU hH gk1_0 g_cl11 52 (by decide) kf_X11_367 rfl dX11_treaty_55 ?_
    refine lv_if_eq (tgt := 68) (pc := 58) hx hb dX11_treaty_58 (by decide) (fun hc => ?_) (fun hc => ?_)
    · have hf := gif_p hc hf
      refine lv_iconst (v := 0) (pc := 68) hx hb dX11_treaty_68 (by decide) ?_
      exact bX11_treaty_69 hC hret hlk hU hf hH hS (lv_sub hl [0] rfl)
    · have hf := gif_n hc hf
      refine lv_aload_n (pc := 61) hx hb dX11_treaty_61 rfl (lv_at hl 0 rfl) ?_
      refine g_get (pc := 62) (v := .int ((wi (wi (wi (wi (wi q0_1 0 48 (q0_1.1 0 43)) 0 49 ((wi q0_1 0 48 (q0_1.1 0 43)).1 0 44)) 0 50 ((wi (wi q0_1 0 48 (q0_1.1 0 43)) 0 49 ((wi q0_1 0 48 (q0_1.1 0 43)).1 0 44)).1 0 45)) 0 51 ((wi (wi (wi q0_1 0 48 (q0_1.1 0 43)) 0 49 ((wi q0_1 0 48 (q0_1.1 0 43)).1 0 44)) 0 50 ((wi (wi q0_1 0 48 (q0_1.1 0 43)) 0 49 ((wi q0_1 0 48 (q0_1.1 0 43)).1 0 44)).1 0 45)).1 0 46)) 0 21 ((wi (wi (wi (wi q0_1 0 48 (q0_1.1 0 43)) 0 49 ((wi q0_1 0 48 (q0_1.1 0 43)).1 0 44)) 0 50 ((wi (wi q0_1 0 48 (q0_1.1 0 43)) 0 49 ((wi q0_1 0 48 (q0_1.1 0 43)).1 0 44)).1 0 45)) 0 51 ((wi (wi (wi q0_1 0 48 (q0_1.1 0 43)) 0 49 ((wi q0_1 0 48 (q0_1.1 0 43)).1 0 44)) 0 50 ((wi (wi q0_1 0 48 (q0_1.1 0 43)) 0 49 ((wi q0_1 0 48 (q0_1.1 0 43)).1 0 44)).1 0 45)).1 0 46)).1 0 20)).1 0 17)) hC hU hH gk1_0 g_cl11 17 (by decide) kf_X11_272 rfl dX11_treaty_62 ?_
      refine lv_goto (tgt := 69) (pc := 65) hx hb dX11_treaty_65 (by decide) ?_
      exact bX11_treaty_69 hC hret hlk hU hf hH hS (lv_sub hl [0] rfl)
  · have hf := gif_n hc hf
    refine lv_iconst (v := (-1)) (pc := 11) hx hb dX11_treaty_11 (by decide) ?_
    exact g_iret (pc := 12) hC hret hlk hH hS hf dX11_treaty_12
set_option maxRecDepth 100000 in
set_option maxHeartbeats 4000000 in
theorem mX11_treaty {l : Launch} {D : va_G} {cA : Nat → ClassId} {ad : Nat → Nat}   {r : Int32} {st st' : gS} (hf : fX11_treaty  st = some (r, st')) : gM l yX11_treaty cX11_treaty 2 (some .int) 8 1 D cA ad st [.ref (ad 0)] (some (.int r)) st' := by
  refine g_met (by decide) (Nat.le_of_ble_eq_true rfl) ?_
  intro p e s m args below meth c ls hC hret hlk hU hH hl
  exact bX11_treaty_0 hC hret hlk hU hf hH va_S.rf hl
def fX11_fault (a1 : Int32)   (st : gS) : Option (Int32 × gS) :=
  if a1 = 0 then (some (st.1 0 2, st)) else (if a1 = 1 then (some (st.1 0 3, st)) else (some ((-1), st)))
set_option maxRecDepth 100000 in
set_option maxHeartbeats 4000000 in
theorem bX11_fault_0 {a1 : Int32} (hC : CallFix p m c cX11_fault 2 s args lw_good RX11) (hret : meth.sig.returnType = (some .int)) (hlk : meth.locks = false) (hU : gU 1 D cA ad s)  {r : Int32} {st' : gS}   {st : gS} {H : Heap} {locs : List Loc} {ls : Array Slot} (hf : fX11_fault a1 st = some (r, st')) (hH : gP0 1 D cA ad st H) (hS : va_S (gA 1 ad) s.heap H locs) (hl : lv_has ls 2 [(0, .ref (ad 0)), (1, .int a1)]) : W p l e (gRm 1) s m args below meth c H locs 0 0 (MQ below (gQc 1 D cA ad st' (some (.int r))) args s 0 0 (gA 1 ad)) (F0 m 0 ls []) := by
  obtain ⟨hx, hb, hml, hown, hts⟩ := id hC
  unfold fX11_fault at hf
  refine lv_iload_n (pc := 0) hx hb dX11_fault_0 rfl (lv_at hl 1 rfl) ?_
  refine lv_if_ne (tgt := 11) (pc := 1) hx hb dX11_fault_1 (by decide) (fun hc => ?_) (fun hc => ?_)
  · have hf := gif_n hc hf
    refine lv_iload_n (pc := 11) hx hb dX11_fault_11 rfl (lv_at hl 1 rfl) ?_
    refine lv_iconst (v := 1) (pc := 12) hx hb dX11_fault_12 (by decide) ?_
    refine lv_icmp_ne (tgt := 23) (pc := 13) hx hb dX11_fault_13 (by decide) (fun hc => ?_) (fun hc => ?_)
    · have hf := gif_n hc hf
      refine lv_iconst (v := (-1)) (pc := 23) hx hb dX11_fault_23 (by decide) ?_
      exact g_iret (pc := 24) hC hret hlk hH hS hf dX11_fault_24
    · have hf := gif_p hc hf
      refine lv_aload_n (pc := 16) hx hb dX11_fault_16 rfl (lv_at hl 0 rfl) ?_
      refine g_get (pc := 17) (v := .int (st.1 0 3)) hC hU hH gk1_0 g_cl11 3 (by decide) kf_X11_13 rfl dX11_fault_17 ?_
      refine lv_goto (tgt := 24) (pc := 20) hx hb dX11_fault_20 (by decide) ?_
      exact g_iret (pc := 24) hC hret hlk hH hS hf dX11_fault_24
  · have hf := gif_p hc hf
    refine lv_aload_n (pc := 4) hx hb dX11_fault_4 rfl (lv_at hl 0 rfl) ?_
    refine g_get (pc := 5) (v := .int (st.1 0 2)) hC hU hH gk1_0 g_cl11 2 (by decide) kf_X11_197 rfl dX11_fault_5 ?_
    refine lv_goto (tgt := 24) (pc := 8) hx hb dX11_fault_8 (by decide) ?_
    exact g_iret (pc := 24) hC hret hlk hH hS hf dX11_fault_24
set_option maxRecDepth 100000 in
set_option maxHeartbeats 4000000 in
theorem mX11_fault {l : Launch} {D : va_G} {cA : Nat → ClassId} {ad : Nat → Nat} {a1 : Int32}  {r : Int32} {st st' : gS} (hf : fX11_fault a1 st = some (r, st')) : gM l yX11_fault cX11_fault 2 (some .int) 1 1 D cA ad st [.ref (ad 0), .int a1] (some (.int r)) st' := by
  refine g_met (by decide) (Nat.le_of_ble_eq_true rfl) ?_
  intro p e s m args below meth c ls hC hret hlk hU hH hl
  exact bX11_fault_0 hC hret hlk hU hf hH va_S.rf hl
def fX11_isIn (a0 : Int32) (a1 : Int32) (a2 : Int32)   (st : gS) : Option (Int32 × gS) :=
  if a0 < a1 then (some (0, st)) else (if a2 < a0 then (some (0, st)) else (some (1, st)))
set_option maxRecDepth 100000 in
set_option maxHeartbeats 4000000 in
theorem bX11_isIn_0 {a0 : Int32} {a1 : Int32} {a2 : Int32} (hC : CallFix p m c cX11_isIn 3 s args lw_good RX11) (hret : meth.sig.returnType = (some .boolean)) (hlk : meth.locks = false) (hU : gU 1 D cA ad s)  {r : Int32} {st' : gS}   {st : gS} {H : Heap} {locs : List Loc} {ls : Array Slot} (hf : fX11_isIn a0 a1 a2 st = some (r, st')) (hH : gP0 1 D cA ad st H) (hS : va_S (gA 1 ad) s.heap H locs) (hl : lv_has ls 3 [(0, .int a0), (1, .int a1), (2, .int a2)]) : W p l e (gRm 1) s m args below meth c H locs 0 0 (MQ below (gQc 1 D cA ad st' (some (.int r))) args s 0 0 (gA 1 ad)) (F0 m 0 ls []) := by
  obtain ⟨hx, hb, hml, hown, hts⟩ := id hC
  unfold fX11_isIn at hf
  refine lv_iload_n (pc := 0) hx hb dX11_isIn_0 rfl (lv_at hl 0 rfl) ?_
  refine lv_iload_n (pc := 1) hx hb dX11_isIn_1 rfl (lv_at hl 1 rfl) ?_
  refine lv_icmp_lt (tgt := 14) (pc := 2) hx hb dX11_isIn_2 (by decide) (fun hc => ?_) (fun hc => ?_)
  · have hf := gif_p hc hf
    refine lv_iconst (v := 0) (pc := 14) hx hb dX11_isIn_14 (by decide) ?_
    exact g_zret (pc := 15) hC hret hlk hH hS (by decide) hf dX11_isIn_15
  · have hf := gif_n hc hf
    refine lv_iload_n (pc := 5) hx hb dX11_isIn_5 rfl (lv_at hl 0 rfl) ?_
    refine lv_iload_n (pc := 6) hx hb dX11_isIn_6 rfl (lv_at hl 2 rfl) ?_
    refine lv_icmp_gt (tgt := 14) (pc := 7) hx hb dX11_isIn_7 (by decide) (fun hc => ?_) (fun hc => ?_)
    · have hf := gif_p hc hf
      refine lv_iconst (v := 0) (pc := 14) hx hb dX11_isIn_14 (by decide) ?_
      exact g_zret (pc := 15) hC hret hlk hH hS (by decide) hf dX11_isIn_15
    · have hf := gif_n hc hf
      refine lv_iconst (v := 1) (pc := 10) hx hb dX11_isIn_10 (by decide) ?_
      refine lv_goto (tgt := 15) (pc := 11) hx hb dX11_isIn_11 (by decide) ?_
      exact g_zret (pc := 15) hC hret hlk hH hS (by decide) hf dX11_isIn_15
set_option maxRecDepth 100000 in
set_option maxHeartbeats 4000000 in
theorem mX11_isIn {l : Launch} {D : va_G} {cA : Nat → ClassId} {ad : Nat → Nat} {a0 : Int32} {a1 : Int32} {a2 : Int32}  {r : Int32} {st st' : gS} (hf : fX11_isIn a0 a1 a2 st = some (r, st')) : gM l yX11_isIn cX11_isIn 3 (some .boolean) 1 1 D cA ad st [.int a0, .int a1, .int a2] (some (.int r)) st' := by
  refine g_met (by decide) (Nat.le_of_ble_eq_true rfl) ?_
  intro p e s m args below meth c ls hC hret hlk hU hH hl
  exact bX11_isIn_0 hC hret hlk hU hf hH va_S.rf hl
def fX11_isTribe (a1 : Int32)   (st : gS) : Option (Int32 × gS) :=
  (fX11_isIn a1 0 ((st.1 0 49) - 1) st).bind fun q0_1 => (gc (gB q0_1.1) (some (q0_1.1, q0_1.2)))
set_option maxRecDepth 100000 in
set_option maxHeartbeats 4000000 in
theorem bX11_isTribe_0 {a1 : Int32} (hC : CallFix p m c cX11_isTribe 2 s args lw_good RX11) (hret : meth.sig.returnType = (some .boolean)) (hlk : meth.locks = false) (hU : gU 1 D cA ad s)  {r : Int32} {st' : gS}   {st : gS} {H : Heap} {locs : List Loc} {ls : Array Slot} (hf : fX11_isTribe a1 st = some (r, st')) (hH : gP0 1 D cA ad st H) (hS : va_S (gA 1 ad) s.heap H locs) (hl : lv_has ls 2 [(0, .ref (ad 0)), (1, .int a1)]) : W p l e (gRm 2) s m args below meth c H locs 0 0 (MQ below (gQc 1 D cA ad st' (some (.int r))) args s 0 0 (gA 1 ad)) (F0 m 0 ls []) := by
  obtain ⟨hx, hb, hml, hown, hts⟩ := id hC
  unfold fX11_isTribe at hf
  refine lv_iload_n (pc := 0) hx hb dX11_isTribe_0 rfl (lv_at hl 1 rfl) ?_
  refine lv_iconst (v := 0) (pc := 1) hx hb dX11_isTribe_1 (by decide) ?_
  refine lv_aload_n (pc := 2) hx hb dX11_isTribe_2 rfl (lv_at hl 0 rfl) ?_
  refine g_get (pc := 3) (v := .int (st.1 0 49)) hC hU hH gk1_0 g_cl11 49 (by decide) kf_X11_395 rfl dX11_isTribe_3 ?_
  refine lv_iconst (v := 1) (pc := 6) hx hb dX11_isTribe_6 (by decide) ?_
  refine lv_isub (pc := 7) hx hb dX11_isTribe_7 ?_
  obtain ⟨q0_1, hq0_1, hf⟩ := gbd hf
  refine g_callSi (pc := 8) (rest := []) hC hU hH hS hl.1 (mX11_isIn  hq0_1) ky_X11_isIn km_X11_416 ⟨Nat.le_of_ble_eq_true rfl, Nat.le_of_ble_eq_true rfl⟩ ⟨Nat.zero_le _, Nat.zero_le _⟩ rfl (Nat.le_of_ble_eq_true rfl) dX11_isTribe_8 rfl (fun H locs hH hS => ?_)
  obtain ⟨h0_1, hf⟩ := gc_s hf
  exact g_zret (pc := 11) hC hret hlk hH hS h0_1 hf dX11_isTribe_11
set_option maxRecDepth 100000 in
set_option maxHeartbeats 4000000 in
theorem mX11_isTribe {l : Launch} {D : va_G} {cA : Nat → ClassId} {ad : Nat → Nat} {a1 : Int32}  {r : Int32} {st st' : gS} (hf : fX11_isTribe a1 st = some (r, st')) : gM l yX11_isTribe cX11_isTribe 2 (some .boolean) 2 1 D cA ad st [.ref (ad 0), .int a1] (some (.int r)) st' := by
  refine g_met (by decide) (Nat.le_of_ble_eq_true rfl) ?_
  intro p e s m args below meth c ls hC hret hlk hU hH hl
  exact bX11_isTribe_0 hC hret hlk hU hf hH va_S.rf hl
def fX11_truth (a0 : Int32)   (st : gS) : Option (Int32 × gS) :=
  if a0 = 0 then (some (0, st)) else (some (1, st))
set_option maxRecDepth 100000 in
set_option maxHeartbeats 4000000 in
theorem bX11_truth_0 {a0 : Int32} (hC : CallFix p m c cX11_truth 1 s args lw_good RX11) (hret : meth.sig.returnType = (some .int)) (hlk : meth.locks = false) (hU : gU 1 D cA ad s)  {r : Int32} {st' : gS}   {st : gS} {H : Heap} {locs : List Loc} {ls : Array Slot} (hf : fX11_truth a0 st = some (r, st')) (hH : gP0 1 D cA ad st H) (hS : va_S (gA 1 ad) s.heap H locs) (hl : lv_has ls 1 [(0, .int a0)]) : W p l e (gRm 1) s m args below meth c H locs 0 0 (MQ below (gQc 1 D cA ad st' (some (.int r))) args s 0 0 (gA 1 ad)) (F0 m 0 ls []) := by
  obtain ⟨hx, hb, hml, hown, hts⟩ := id hC
  unfold fX11_truth at hf
  refine lv_iload_n (pc := 0) hx hb dX11_truth_0 rfl (lv_at hl 0 rfl) ?_
  refine lv_if_eq (tgt := 8) (pc := 1) hx hb dX11_truth_1 (by decide) (fun hc => ?_) (fun hc => ?_)
  · have hf := gif_p hc hf
    refine lv_iconst (v := 0) (pc := 8) hx hb dX11_truth_8 (by decide) ?_
    exact g_iret (pc := 9) hC hret hlk hH hS hf dX11_truth_9
  · have hf := gif_n hc hf
    refine lv_iconst (v := 1) (pc := 4) hx hb dX11_truth_4 (by decide) ?_
    refine lv_goto (tgt := 9) (pc := 5) hx hb dX11_truth_5 (by decide) ?_
    exact g_iret (pc := 9) hC hret hlk hH hS hf dX11_truth_9
set_option maxRecDepth 100000 in
set_option maxHeartbeats 4000000 in
theorem mX11_truth {l : Launch} {D : va_G} {cA : Nat → ClassId} {ad : Nat → Nat} {a0 : Int32}  {r : Int32} {st st' : gS} (hf : fX11_truth a0 st = some (r, st')) : gM l yX11_truth cX11_truth 1 (some .int) 1 1 D cA ad st [.int a0] (some (.int r)) st' := by
  refine g_met (by decide) (Nat.le_of_ble_eq_true rfl) ?_
  intro p e s m args below meth c ls hC hret hlk hU hH hl
  exact bX11_truth_0 hC hret hlk hU hf hH va_S.rf hl
def fX11_canBy_28 (a1 : Int32) (a2 : Int32) (a3 : Int32)  (s0 : Int32) (s1 : Int32) (st : gS) : Option (Int32 × gS) :=
  if ((s1 >>> (s0 &&& 31)) &&& 1) = 0 then (some (1, st)) else (some (0, st))
set_option maxRecDepth 100000 in
set_option maxHeartbeats 4000000 in
theorem bX11_canBy_28 {a1 : Int32} {a2 : Int32} {a3 : Int32} (hC : CallFix p m c cX11_canBy 4 s args lw_good RX11) (hret : meth.sig.returnType = (some .boolean)) (hlk : meth.locks = false) (hU : gU 1 D cA ad s)  {r : Int32} {st' : gS}  {s0 : Int32} {s1 : Int32} {st : gS} {H : Heap} {locs : List Loc} {ls : Array Slot} (hf : fX11_canBy_28 a1 a2 a3 s0 s1 st = some (r, st')) (hH : gP0 1 D cA ad st H) (hS : va_S (gA 1 ad) s.heap H locs) (hl : lv_has ls 4 []) : W p l e (gRm 1) s m args below meth c H locs 0 0 (MQ below (gQc 1 D cA ad st' (some (.int r))) args s 0 0 (gA 1 ad)) (F0 m 28 ls [.int s0, .int s1]) := by
  obtain ⟨hx, hb, hml, hown, hts⟩ := id hC
  unfold fX11_canBy_28 at hf
  refine lv_ishr (pc := 28) hx hb dX11_canBy_28 ?_
  refine lv_iconst (v := 1) (pc := 29) hx hb dX11_canBy_29 (by decide) ?_
  refine lv_iand (pc := 30) hx hb dX11_canBy_30 ?_
  refine lv_if_ne (tgt := 38) (pc := 31) hx hb dX11_canBy_31 (by decide) (fun hc => ?_) (fun hc => ?_)
  · have hf := gif_n hc hf
    refine lv_iconst (v := 0) (pc := 38) hx hb dX11_canBy_38 (by decide) ?_
    exact g_zret (pc := 39) hC hret hlk hH hS (by decide) hf dX11_canBy_39
  · have hf := gif_p hc hf
    refine lv_iconst (v := 1) (pc := 34) hx hb dX11_canBy_34 (by decide) ?_
    refine lv_goto (tgt := 39) (pc := 35) hx hb dX11_canBy_35 (by decide) ?_
    exact g_zret (pc := 39) hC hret hlk hH hS (by decide) hf dX11_canBy_39
def fX11_canBy (a1 : Int32) (a2 : Int32) (a3 : Int32)   (st : gS) : Option (Int32 × gS) :=
  gc (gI a1 5) (if a3 = 0 then (gc (gI a2 16) (fX11_canBy_28 a1 a2 a3 (st.1 23 a2.toNatClampNeg) (st.1 13 a1.toNatClampNeg) st)) else (gc (gI a2 16) (fX11_canBy_28 a1 a2 a3 (9 - (st.1 23 a2.toNatClampNeg)) (st.1 13 a1.toNatClampNeg) st)))
set_option maxRecDepth 100000 in
set_option maxHeartbeats 4000000 in
theorem bX11_canBy_0 {a1 : Int32} {a2 : Int32} {a3 : Int32} (hC : CallFix p m c cX11_canBy 4 s args lw_good RX11) (hret : meth.sig.returnType = (some .boolean)) (hlk : meth.locks = false) (hU : gU 1 D cA ad s)  {r : Int32} {st' : gS}   {st : gS} {H : Heap} {locs : List Loc} {ls : Array Slot} (hf : fX11_canBy a1 a2 a3 st = some (r, st')) (hH : gP0 1 D cA ad st H) (hS : va_S (gA 1 ad) s.heap H locs) (hl : lv_has ls 4 [(0, .ref (ad 0)), (1, .int a1), (2, .int a2), (3, .int a3)]) : W p l e (gRm 1) s m args below meth c H locs 0 0 (MQ below (gQc 1 D cA ad st' (some (.int r))) args s 0 0 (gA 1 ad)) (F0 m 0 ls []) := by
  obtain ⟨hx, hb, hml, hown, hts⟩ := id hC
  unfold fX11_canBy at hf
  refine lv_aload_n (pc := 0) hx hb dX11_canBy_0 rfl (lv_at hl 0 rfl) ?_
  refine g_get (pc := 1) (v := .ref (ad 13)) hC hU hH gk1_0 g_cl11 28 (by decide) kf_X11_51 rfl dX11_canBy_1 ?_
  refine lv_iload_n (pc := 4) hx hb dX11_canBy_4 rfl (lv_at hl 1 rfl) ?_
  obtain ⟨h0_1, hf⟩ := gc_s hf
  refine g_iald (pc := 5) hC hU hH gk1_13 gn1_13 h0_1 dX11_canBy_5 ?_
  refine lv_iload_n (pc := 6) hx hb dX11_canBy_6 rfl (lv_at hl 3 rfl) ?_
  refine lv_if_eq (tgt := 22) (pc := 7) hx hb dX11_canBy_7 (by decide) (fun hc => ?_) (fun hc => ?_)
  · have hf := gif_p hc hf
    refine lv_aload_n (pc := 22) hx hb dX11_canBy_22 rfl (lv_at hl 0 rfl) ?_
    refine g_get (pc := 23) (v := .ref (ad 23)) hC hU hH gk1_0 g_cl11 38 (by decide) kf_X11_81 rfl dX11_canBy_23 ?_
    refine lv_iload_n (pc := 26) hx hb dX11_canBy_26 rfl (lv_at hl 2 rfl) ?_
    obtain ⟨h0_2, hf⟩ := gc_s hf
    refine g_iald (pc := 27) hC hU hH gk1_23 gn1_23 h0_2 dX11_canBy_27 ?_
    exact bX11_canBy_28 hC hret hlk hU hf hH hS (lv_sub hl [] rfl)
  · have hf := gif_n hc hf
    refine lv_bipush (v := 9) (pc := 10) hx hb dX11_canBy_10 (by decide) ?_
    refine lv_aload_n (pc := 12) hx hb dX11_canBy_12 rfl (lv_at hl 0 rfl) ?_
    refine g_get (pc := 13) (v := .ref (ad 23)) hC hU hH gk1_0 g_cl11 38 (by decide) kf_X11_81 rfl dX11_canBy_13 ?_
    refine lv_iload_n (pc := 16) hx hb dX11_canBy_16 rfl (lv_at hl 2 rfl) ?_
    obtain ⟨h0_3, hf⟩ := gc_s hf
    refine g_iald (pc := 17) hC hU hH gk1_23 gn1_23 h0_3 dX11_canBy_17 ?_
    refine lv_isub (pc := 18) hx hb dX11_canBy_18 ?_
    refine lv_goto (tgt := 28) (pc := 19) hx hb dX11_canBy_19 (by decide) ?_
    exact bX11_canBy_28 hC hret hlk hU hf hH hS (lv_sub hl [] rfl)
set_option maxRecDepth 100000 in
set_option maxHeartbeats 4000000 in
theorem mX11_canBy {l : Launch} {D : va_G} {cA : Nat → ClassId} {ad : Nat → Nat} {a1 : Int32} {a2 : Int32} {a3 : Int32}  {r : Int32} {st st' : gS} (hf : fX11_canBy a1 a2 a3 st = some (r, st')) : gM l yX11_canBy cX11_canBy 4 (some .boolean) 1 1 D cA ad st [.ref (ad 0), .int a1, .int a2, .int a3] (some (.int r)) st' := by
  refine g_met (by decide) (Nat.le_of_ble_eq_true rfl) ?_
  intro p e s m args below meth c ls hC hret hlk hU hH hl
  exact bX11_canBy_0 hC hret hlk hU hf hH va_S.rf hl
def fX11_can (a1 : Int32) (a2 : Int32)   (st : gS) : Option (Int32 × gS) :=
  gc (gI a1 5) ((fX11_canBy a1 a2 (st.1 27 a1.toNatClampNeg) st).bind fun q0_1 => (gc (gB q0_1.1) (some (q0_1.1, q0_1.2))))
set_option maxRecDepth 100000 in
set_option maxHeartbeats 4000000 in
theorem bX11_can_0 {a1 : Int32} {a2 : Int32} (hC : CallFix p m c cX11_can 3 s args lw_good RX11) (hret : meth.sig.returnType = (some .boolean)) (hlk : meth.locks = false) (hU : gU 1 D cA ad s)  {r : Int32} {st' : gS}   {st : gS} {H : Heap} {locs : List Loc} {ls : Array Slot} (hf : fX11_can a1 a2 st = some (r, st')) (hH : gP0 1 D cA ad st H) (hS : va_S (gA 1 ad) s.heap H locs) (hl : lv_has ls 3 [(0, .ref (ad 0)), (1, .int a1), (2, .int a2)]) : W p l e (gRm 2) s m args below meth c H locs 0 0 (MQ below (gQc 1 D cA ad st' (some (.int r))) args s 0 0 (gA 1 ad)) (F0 m 0 ls []) := by
  obtain ⟨hx, hb, hml, hown, hts⟩ := id hC
  unfold fX11_can at hf
  refine lv_aload_n (pc := 0) hx hb dX11_can_0 rfl (lv_at hl 0 rfl) ?_
  refine lv_iload_n (pc := 1) hx hb dX11_can_1 rfl (lv_at hl 1 rfl) ?_
  refine lv_iload_n (pc := 2) hx hb dX11_can_2 rfl (lv_at hl 2 rfl) ?_
  refine lv_aload_n (pc := 3) hx hb dX11_can_3 rfl (lv_at hl 0 rfl) ?_
  refine g_get (pc := 4) (v := .ref (ad 27)) hC hU hH gk1_0 g_cl11 42 (by decide) kf_X11_94 rfl dX11_can_4 ?_
  refine lv_iload_n (pc := 7) hx hb dX11_can_7 rfl (lv_at hl 1 rfl) ?_
  obtain ⟨h0_1, hf⟩ := gc_s hf
  refine g_zald (pc := 8) hC hU hH gk1_27 gn1_27 h0_1 dX11_can_8 ?_
  obtain ⟨q0_1, hq0_1, hf⟩ := gbd hf
  refine g_callVi (pc := 9) (rest := []) hC hU hH hS hl.1 gk1_0 rfl (by decide) (mX11_canBy  hq0_1) ky_X11_canBy km_X11_420 ⟨Nat.le_of_ble_eq_true rfl, Nat.le_of_ble_eq_true rfl⟩ ⟨Nat.zero_le _, Nat.zero_le _⟩ rfl (Nat.le_of_ble_eq_true rfl) dX11_can_9 rfl (fun H locs hH hS => ?_)
  obtain ⟨h0_2, hf⟩ := gc_s hf
  exact g_zret (pc := 12) hC hret hlk hH hS h0_2 hf dX11_can_12
set_option maxRecDepth 100000 in
set_option maxHeartbeats 4000000 in
theorem mX11_can {l : Launch} {D : va_G} {cA : Nat → ClassId} {ad : Nat → Nat} {a1 : Int32} {a2 : Int32}  {r : Int32} {st st' : gS} (hf : fX11_can a1 a2 st = some (r, st')) : gM l yX11_can cX11_can 3 (some .boolean) 2 1 D cA ad st [.ref (ad 0), .int a1, .int a2] (some (.int r)) st' := by
  refine g_met (by decide) (Nat.le_of_ble_eq_true rfl) ?_
  intro p e s m args below meth c ls hC hret hlk hU hH hl
  exact bX11_can_0 hC hret hlk hU hf hH va_S.rf hl
def fX11_movesOf_47 (a1 : Int32) (a2 : Int32) (k5 : Int32 → Int32 → gS → Option (Int32 × gS)) (l4 : Int32) (s0 : Int32) (s1 : Int32) (st : gS) : Option (Int32 × gS) :=
  (fX11_truth s0 st).bind fun q47_1 => (gl (s1 ||| (q47_1.1 <<< (l4 &&& 31))) fun x54 => (k5 x54 (l4 + 1) q47_1.2))
set_option maxRecDepth 100000 in
set_option maxHeartbeats 4000000 in
theorem bX11_movesOf_47 {a1 : Int32} {a2 : Int32} (hC : CallFix p m c cX11_movesOf 5 s args lw_good RX11) (hret : meth.sig.returnType = (some .int)) (hlk : meth.locks = false) (hU : gU 1 D cA ad s)  {r : Int32} {st' : gS} {k5 : Int32 → Int32 → gS → Option (Int32 × gS)} (hk5 : ∀ {l3 : Int32} {l4 : Int32} {st : gS} {H : Heap} {locs : List Loc} {ls : Array Slot}, k5 l3 l4 st = some (r, st') → gP0 1 D cA ad st H → va_S (gA 1 ad) s.heap H locs → lv_has ls 5 [(0, .ref (ad 0)), (1, .int a1), (2, .int a2), (3, .int l3), (4, .int l4)] → W p l e (gRm 3) s m args below meth c H locs 0 0 (MQ below (gQc 1 D cA ad st' (some (.int r))) args s 0 0 (gA 1 ad)) (F0 m 5 ls [])) {l4 : Int32} {s0 : Int32} {s1 : Int32} {st : gS} {H : Heap} {locs : List Loc} {ls : Array Slot} (hf : fX11_movesOf_47 a1 a2 k5 l4 s0 s1 st = some (r, st')) (hH : gP0 1 D cA ad st H) (hS : va_S (gA 1 ad) s.heap H locs) (hl : lv_has ls 5 [(0, .ref (ad 0)), (1, .int a1), (2, .int a2), (4, .int l4)]) : W p l e (gRm 3) s m args below meth c H locs 0 0 (MQ below (gQc 1 D cA ad st' (some (.int r))) args s 0 0 (gA 1 ad)) (F0 m 47 ls [.int s0, .int s1]) := by
  obtain ⟨hx, hb, hml, hown, hts⟩ := id hC
  unfold fX11_movesOf_47 at hf
  obtain ⟨q47_1, hq47_1, hf⟩ := gbd hf
  refine g_callSi (pc := 47) (rest := [.int s1]) hC hU hH hS hl.1 (mX11_truth  hq47_1) ky_X11_truth km_X11_325 ⟨Nat.le_of_ble_eq_true rfl, Nat.le_of_ble_eq_true rfl⟩ ⟨Nat.zero_le _, Nat.zero_le _⟩ rfl (Nat.le_of_ble_eq_true rfl) dX11_movesOf_47 rfl (fun H locs hH hS => ?_)
  refine lv_iload (pc := 50) hx hb dX11_movesOf_50 (lv_at hl 3 rfl) ?_
  refine lv_ishl (pc := 52) hx hb dX11_movesOf_52 ?_
  refine lv_ior (pc := 53) hx hb dX11_movesOf_53 ?_
  refine lv_topi (pc := 54) (fun x54 ex54 => ?_)
  have hf := gl_s ex54 hf
  refine lv_istore_n (lv' := [(3, .int x54), (0, .ref (ad 0)), (1, .int a1), (2, .int a2), (4, .int l4)]) (pc := 54) hx hb dX11_movesOf_54 rfl hl (by decide) rfl (fun ls hl => ?_)
  refine lv_iinc (v := l4 + 1) (lv' := [(4, .int (l4 + 1)), (3, .int x54), (0, .ref (ad 0)), (1, .int a1), (2, .int a2)]) (k := 4) (pc := 55) hx hb dX11_movesOf_55 hl rfl rfl (by decide) rfl (fun ls hl => ?_)
  refine lv_goto (tgt := 5) (pc := 58) hx hb dX11_movesOf_58 (by decide) ?_
  exact hk5 hf hH hS (lv_sub hl [2, 3, 4, 1, 0] rfl)
def fX11_movesOf_46 (a1 : Int32) (a2 : Int32) (k5 : Int32 → Int32 → gS → Option (Int32 × gS)) (l4 : Int32) (s0 : Int32) (st : gS) : Option (Int32 × gS) :=
  fX11_movesOf_47 a1 a2 k5 l4 0 s0 st
set_option maxRecDepth 100000 in
set_option maxHeartbeats 4000000 in
theorem bX11_movesOf_46 {a1 : Int32} {a2 : Int32} (hC : CallFix p m c cX11_movesOf 5 s args lw_good RX11) (hret : meth.sig.returnType = (some .int)) (hlk : meth.locks = false) (hU : gU 1 D cA ad s)  {r : Int32} {st' : gS} {k5 : Int32 → Int32 → gS → Option (Int32 × gS)} (hk5 : ∀ {l3 : Int32} {l4 : Int32} {st : gS} {H : Heap} {locs : List Loc} {ls : Array Slot}, k5 l3 l4 st = some (r, st') → gP0 1 D cA ad st H → va_S (gA 1 ad) s.heap H locs → lv_has ls 5 [(0, .ref (ad 0)), (1, .int a1), (2, .int a2), (3, .int l3), (4, .int l4)] → W p l e (gRm 3) s m args below meth c H locs 0 0 (MQ below (gQc 1 D cA ad st' (some (.int r))) args s 0 0 (gA 1 ad)) (F0 m 5 ls [])) {l4 : Int32} {s0 : Int32} {st : gS} {H : Heap} {locs : List Loc} {ls : Array Slot} (hf : fX11_movesOf_46 a1 a2 k5 l4 s0 st = some (r, st')) (hH : gP0 1 D cA ad st H) (hS : va_S (gA 1 ad) s.heap H locs) (hl : lv_has ls 5 [(0, .ref (ad 0)), (1, .int a1), (2, .int a2), (4, .int l4)]) : W p l e (gRm 3) s m args below meth c H locs 0 0 (MQ below (gQc 1 D cA ad st' (some (.int r))) args s 0 0 (gA 1 ad)) (F0 m 46 ls [.int s0]) := by
  obtain ⟨hx, hb, hml, hown, hts⟩ := id hC
  unfold fX11_movesOf_46 at hf
  refine lv_iconst (v := 0) (pc := 46) hx hb dX11_movesOf_46 (by decide) ?_
  exact bX11_movesOf_47 hC hret hlk hU hk5 hf hH hS (lv_sub hl [0, 1, 2, 3] rfl)
def fX11_movesOf_42 (a1 : Int32) (a2 : Int32) (k5 : Int32 → Int32 → gS → Option (Int32 × gS)) (l4 : Int32) (s0 : Int32) (st : gS) : Option (Int32 × gS) :=
  fX11_movesOf_47 a1 a2 k5 l4 1 s0 st
set_option maxRecDepth 100000 in
set_option maxHeartbeats 4000000 in
theorem bX11_movesOf_42 {a1 : Int32} {a2 : Int32} (hC : CallFix p m c cX11_movesOf 5 s args lw_good RX11) (hret : meth.sig.returnType = (some .int)) (hlk : meth.locks = false) (hU : gU 1 D cA ad s)  {r : Int32} {st' : gS} {k5 : Int32 → Int32 → gS → Option (Int32 × gS)} (hk5 : ∀ {l3 : Int32} {l4 : Int32} {st : gS} {H : Heap} {locs : List Loc} {ls : Array Slot}, k5 l3 l4 st = some (r, st') → gP0 1 D cA ad st H → va_S (gA 1 ad) s.heap H locs → lv_has ls 5 [(0, .ref (ad 0)), (1, .int a1), (2, .int a2), (3, .int l3), (4, .int l4)] → W p l e (gRm 3) s m args below meth c H locs 0 0 (MQ below (gQc 1 D cA ad st' (some (.int r))) args s 0 0 (gA 1 ad)) (F0 m 5 ls [])) {l4 : Int32} {s0 : Int32} {st : gS} {H : Heap} {locs : List Loc} {ls : Array Slot} (hf : fX11_movesOf_42 a1 a2 k5 l4 s0 st = some (r, st')) (hH : gP0 1 D cA ad st H) (hS : va_S (gA 1 ad) s.heap H locs) (hl : lv_has ls 5 [(0, .ref (ad 0)), (1, .int a1), (2, .int a2), (4, .int l4)]) : W p l e (gRm 3) s m args below meth c H locs 0 0 (MQ below (gQc 1 D cA ad st' (some (.int r))) args s 0 0 (gA 1 ad)) (F0 m 42 ls [.int s0]) := by
  obtain ⟨hx, hb, hml, hown, hts⟩ := id hC
  unfold fX11_movesOf_42 at hf
  refine lv_iconst (v := 1) (pc := 42) hx hb dX11_movesOf_42 (by decide) ?_
  refine lv_goto (tgt := 47) (pc := 43) hx hb dX11_movesOf_43 (by decide) ?_
  exact bX11_movesOf_47 hC hret hlk hU hk5 hf hH hS (lv_sub hl [0, 1, 2, 3] rfl)
def fX11_movesOf_5 (a1 : Int32) (a2 : Int32) (k5 : Int32 → Int32 → gS → Option (Int32 × gS)) (l3 : Int32) (l4 : Int32) (st : gS) : Option (Int32 × gS) :=
  if (st.1 0 50) ≤ l4 then (some (l3, st)) else ((fX11_can a1 l4 st).bind fun q5_1 => (if q5_1.1 = 0 then (fX11_movesOf_46 a1 a2 k5 l4 l3 q5_1.2) else (if a2 = (-2) then (fX11_movesOf_42 a1 a2 k5 l4 l3 q5_1.2) else (gc (gI l4 16) (if (q5_1.2.1 21 l4.toNatClampNeg) = a2 then (fX11_movesOf_42 a1 a2 k5 l4 l3 q5_1.2) else (fX11_movesOf_46 a1 a2 k5 l4 l3 q5_1.2))))))
set_option maxRecDepth 100000 in
set_option maxHeartbeats 4000000 in
theorem bX11_movesOf_5 {a1 : Int32} {a2 : Int32} (hC : CallFix p m c cX11_movesOf 5 s args lw_good RX11) (hret : meth.sig.returnType = (some .int)) (hlk : meth.locks = false) (hU : gU 1 D cA ad s)  {r : Int32} {st' : gS} {k5 : Int32 → Int32 → gS → Option (Int32 × gS)} (hk5 : ∀ {l3 : Int32} {l4 : Int32} {st : gS} {H : Heap} {locs : List Loc} {ls : Array Slot}, k5 l3 l4 st = some (r, st') → gP0 1 D cA ad st H → va_S (gA 1 ad) s.heap H locs → lv_has ls 5 [(0, .ref (ad 0)), (1, .int a1), (2, .int a2), (3, .int l3), (4, .int l4)] → W p l e (gRm 3) s m args below meth c H locs 0 0 (MQ below (gQc 1 D cA ad st' (some (.int r))) args s 0 0 (gA 1 ad)) (F0 m 5 ls [])) {l3 : Int32} {l4 : Int32} {st : gS} {H : Heap} {locs : List Loc} {ls : Array Slot} (hf : fX11_movesOf_5 a1 a2 k5 l3 l4 st = some (r, st')) (hH : gP0 1 D cA ad st H) (hS : va_S (gA 1 ad) s.heap H locs) (hl : lv_has ls 5 [(0, .ref (ad 0)), (1, .int a1), (2, .int a2), (3, .int l3), (4, .int l4)]) : W p l e (gRm 3) s m args below meth c H locs 0 0 (MQ below (gQc 1 D cA ad st' (some (.int r))) args s 0 0 (gA 1 ad)) (F0 m 5 ls []) := by
  obtain ⟨hx, hb, hml, hown, hts⟩ := id hC
  unfold fX11_movesOf_5 at hf
  refine lv_iload (pc := 5) hx hb dX11_movesOf_5 (lv_at hl 4 rfl) ?_
  refine lv_aload_n (pc := 7) hx hb dX11_movesOf_7 rfl (lv_at hl 0 rfl) ?_
  refine g_get (pc := 8) (v := .int (st.1 0 50)) hC hU hH gk1_0 g_cl11 50 (by decide) kf_X11_398 rfl dX11_movesOf_8 ?_
  refine lv_icmp_ge (tgt := 61) (pc := 11) hx hb dX11_movesOf_11 (by decide) (fun hc => ?_) (fun hc => ?_)
  · have hf := gif_p hc hf
    refine lv_iload_n (pc := 61) hx hb dX11_movesOf_61 rfl (lv_at hl 3 rfl) ?_
    exact g_iret (pc := 62) hC hret hlk hH hS hf dX11_movesOf_62
  · have hf := gif_n hc hf
    refine lv_iload_n (pc := 14) hx hb dX11_movesOf_14 rfl (lv_at hl 3 rfl) ?_
    refine lv_aload_n (pc := 15) hx hb dX11_movesOf_15 rfl (lv_at hl 0 rfl) ?_
    refine lv_iload_n (pc := 16) hx hb dX11_movesOf_16 rfl (lv_at hl 1 rfl) ?_
    refine lv_iload (pc := 17) hx hb dX11_movesOf_17 (lv_at hl 4 rfl) ?_
    obtain ⟨q5_1, hq5_1, hf⟩ := gbd hf
    refine g_callVi (pc := 19) (rest := [.int l3]) hC hU hH hS hl.1 gk1_0 rfl (by decide) (mX11_can  hq5_1) ky_X11_can km_X11_427 ⟨Nat.le_of_ble_eq_true rfl, Nat.le_of_ble_eq_true rfl⟩ ⟨Nat.zero_le _, Nat.zero_le _⟩ rfl (Nat.le_of_ble_eq_true rfl) dX11_movesOf_19 rfl (fun H locs hH hS => ?_)
    refine lv_if_eq (tgt := 46) (pc := 22) hx hb dX11_movesOf_22 (by decide) (fun hc => ?_) (fun hc => ?_)
    · have hf := gif_p hc hf
      exact bX11_movesOf_46 hC hret hlk hU hk5 hf hH hS (lv_sub hl [0, 1, 2, 4] rfl)
    · have hf := gif_n hc hf
      refine lv_iload_n (pc := 25) hx hb dX11_movesOf_25 rfl (lv_at hl 2 rfl) ?_
      refine lv_bipush (v := (-2)) (pc := 26) hx hb dX11_movesOf_26 (by decide) ?_
      refine lv_icmp_eq (tgt := 42) (pc := 28) hx hb dX11_movesOf_28 (by decide) (fun hc => ?_) (fun hc => ?_)
      · have hf := gif_p hc hf
        exact bX11_movesOf_42 hC hret hlk hU hk5 hf hH hS (lv_sub hl [0, 1, 2, 4] rfl)
      · have hf := gif_n hc hf
        refine lv_aload_n (pc := 31) hx hb dX11_movesOf_31 rfl (lv_at hl 0 rfl) ?_
        refine g_get (pc := 32) (v := .ref (ad 21)) hC hU hH gk1_0 g_cl11 36 (by decide) kf_X11_75 rfl dX11_movesOf_32 ?_
        refine lv_iload (pc := 35) hx hb dX11_movesOf_35 (lv_at hl 4 rfl) ?_
        obtain ⟨h5_1, hf⟩ := gc_s hf
        refine g_iald (pc := 37) hC hU hH gk1_21 gn1_21 h5_1 dX11_movesOf_37 ?_
        refine lv_iload_n (pc := 38) hx hb dX11_movesOf_38 rfl (lv_at hl 2 rfl) ?_
        refine lv_icmp_ne (tgt := 46) (pc := 39) hx hb dX11_movesOf_39 (by decide) (fun hc => ?_) (fun hc => ?_)
        · have hf := gif_n hc hf
          exact bX11_movesOf_46 hC hret hlk hU hk5 hf hH hS (lv_sub hl [0, 1, 2, 4] rfl)
        · have hf := gif_p hc hf
          exact bX11_movesOf_42 hC hret hlk hU hk5 hf hH hS (lv_sub hl [0, 1, 2, 4] rfl)
def hX11_movesOf_5 (a1 : Int32) (a2 : Int32)  : Nat → Int32 → Int32 → gS → Option (Int32 × gS)
  | 0 => fun _ _ _ => none
  | n + 1 => fun l3 l4 st => fX11_movesOf_5 a1 a2 (hX11_movesOf_5 a1 a2 n) l3 l4 st
set_option maxRecDepth 100000 in
set_option maxHeartbeats 4000000 in
theorem wX11_movesOf_5 {a1 : Int32} {a2 : Int32} (hC : CallFix p m c cX11_movesOf 5 s args lw_good RX11) (hret : meth.sig.returnType = (some .int)) (hlk : meth.locks = false) (hU : gU 1 D cA ad s)  {r : Int32} {st' : gS}  : ∀ (n : Nat) {l3 : Int32} {l4 : Int32} {st : gS} {H : Heap} {locs : List Loc} {ls : Array Slot}, hX11_movesOf_5 a1 a2 n l3 l4 st = some (r, st') → gP0 1 D cA ad st H → va_S (gA 1 ad) s.heap H locs → lv_has ls 5 [(0, .ref (ad 0)), (1, .int a1), (2, .int a2), (3, .int l3), (4, .int l4)] → W p l e (gRm 3) s m args below meth c H locs 0 0 (MQ below (gQc 1 D cA ad st' (some (.int r))) args s 0 0 (gA 1 ad)) (F0 m 5 ls []) := by
  intro n
  induction n with
  | zero => intro l3 l4 st H locs ls hf hH hS hl; cases hf
  | succ n ih =>
    intro l3 l4 st H locs ls hf hH hS hl
    exact bX11_movesOf_5 (a1 := a1) (a2 := a2) hC hret hlk hU (fun hf hH hS hl => ih hf hH hS hl) hf hH hS hl
def fX11_movesOf (a1 : Int32) (a2 : Int32)   (st : gS) : Option (Int32 × gS) :=
  hX11_movesOf_5 a1 a2 FU 0 0 st
set_option maxRecDepth 100000 in
set_option maxHeartbeats 4000000 in
theorem bX11_movesOf_0 {a1 : Int32} {a2 : Int32} (hC : CallFix p m c cX11_movesOf 5 s args lw_good RX11) (hret : meth.sig.returnType = (some .int)) (hlk : meth.locks = false) (hU : gU 1 D cA ad s)  {r : Int32} {st' : gS}   {st : gS} {H : Heap} {locs : List Loc} {ls : Array Slot} (hf : fX11_movesOf a1 a2 st = some (r, st')) (hH : gP0 1 D cA ad st H) (hS : va_S (gA 1 ad) s.heap H locs) (hl : lv_has ls 5 [(0, .ref (ad 0)), (1, .int a1), (2, .int a2)]) : W p l e (gRm 3) s m args below meth c H locs 0 0 (MQ below (gQc 1 D cA ad st' (some (.int r))) args s 0 0 (gA 1 ad)) (F0 m 0 ls []) := by
  obtain ⟨hx, hb, hml, hown, hts⟩ := id hC
  unfold fX11_movesOf at hf
  refine lv_iconst (v := 0) (pc := 0) hx hb dX11_movesOf_0 (by decide) ?_
  refine lv_istore_n (lv' := [(3, .int 0), (0, .ref (ad 0)), (1, .int a1), (2, .int a2)]) (pc := 1) hx hb dX11_movesOf_1 rfl hl (by decide) rfl (fun ls hl => ?_)
  refine lv_iconst (v := 0) (pc := 2) hx hb dX11_movesOf_2 (by decide) ?_
  refine lv_istore (lv' := [(4, .int 0), (3, .int 0), (0, .ref (ad 0)), (1, .int a1), (2, .int a2)]) (pc := 3) hx hb dX11_movesOf_3 hl (by decide) rfl (fun ls hl => ?_)
  exact wX11_movesOf_5 hC hret hlk hU FU hf hH hS (lv_sub hl [2, 3, 4, 1, 0] rfl)
set_option maxRecDepth 100000 in
set_option maxHeartbeats 4000000 in
theorem mX11_movesOf {l : Launch} {D : va_G} {cA : Nat → ClassId} {ad : Nat → Nat} {a1 : Int32} {a2 : Int32}  {r : Int32} {st st' : gS} (hf : fX11_movesOf a1 a2 st = some (r, st')) : gM l yX11_movesOf cX11_movesOf 5 (some .int) 3 1 D cA ad st [.ref (ad 0), .int a1, .int a2] (some (.int r)) st' := by
  refine g_met (by decide) (Nat.le_of_ble_eq_true rfl) ?_
  intro p e s m args below meth c ls hC hret hlk hU hH hl
  exact bX11_movesOf_0 hC hret hlk hU hf hH va_S.rf hl
def fX11_tribe (a1 : Int32) (a2 : Int32)   (st : gS) : Option (Int32 × gS) :=
  (fX11_isTribe a1 st).bind fun q0_1 => (if q0_1.1 = 0 then (some ((-1), q0_1.2)) else (if a2 = 0 then (gc (gI a1 5) (some (q0_1.2.1 12 a1.toNatClampNeg, q0_1.2))) else if a2 = 1 then (gc (gI a1 5) (some (q0_1.2.1 13 a1.toNatClampNeg, q0_1.2))) else if a2 = 2 then (gc (gI a1 5) ((fX11_truth (q0_1.2.1 27 a1.toNatClampNeg) q0_1.2).bind fun q0_2 => (some (q0_2.1, q0_2.2)))) else if a2 = 3 then (gc (gI (4 + a1) 18) (some (q0_1.2.1 28 (4 + a1).toNatClampNeg, q0_1.2))) else if a2 = 4 then (gc (gI (9 + a1) 18) (some (q0_1.2.1 28 (9 + a1).toNatClampNeg, q0_1.2))) else if a2 = 5 then ((fX11_movesOf a1 (-2) q0_1.2).bind fun q0_3 => (some (q0_3.1, q0_3.2))) else if a2 = 6 then (gc (gI 1 18) (if a1 = (q0_1.2.1 28 (1 : Int32).toNatClampNeg) then (some (0, q0_1.2)) else (gc (gI 0 18) ((fX11_movesOf a1 (q0_1.2.1 28 (0 : Int32).toNatClampNeg) q0_1.2).bind fun q0_4 => (some (q0_4.1, q0_4.2)))))) else (some ((-1), q0_1.2))))
set_option maxRecDepth 100000 in
set_option maxHeartbeats 4000000 in
theorem bX11_tribe_0 {a1 : Int32} {a2 : Int32} (hC : CallFix p m c cX11_tribe 3 s args lw_good RX11) (hret : meth.sig.returnType = (some .int)) (hlk : meth.locks = false) (hU : gU 1 D cA ad s)  {r : Int32} {st' : gS}   {st : gS} {H : Heap} {locs : List Loc} {ls : Array Slot} (hf : fX11_tribe a1 a2 st = some (r, st')) (hH : gP0 1 D cA ad st H) (hS : va_S (gA 1 ad) s.heap H locs) (hl : lv_has ls 3 [(0, .ref (ad 0)), (1, .int a1), (2, .int a2)]) : W p l e (gRm 4) s m args below meth c H locs 0 0 (MQ below (gQc 1 D cA ad st' (some (.int r))) args s 0 0 (gA 1 ad)) (F0 m 0 ls []) := by
  obtain ⟨hx, hb, hml, hown, hts⟩ := id hC
  unfold fX11_tribe at hf
  refine lv_aload_n (pc := 0) hx hb dX11_tribe_0 rfl (lv_at hl 0 rfl) ?_
  refine lv_iload_n (pc := 1) hx hb dX11_tribe_1 rfl (lv_at hl 1 rfl) ?_
  obtain ⟨q0_1, hq0_1, hf⟩ := gbd hf
  refine g_callVi (pc := 2) (rest := []) hC hU hH hS hl.1 gk1_0 rfl (by decide) (mX11_isTribe  hq0_1) ky_X11_isTribe km_X11_431 ⟨Nat.le_of_ble_eq_true rfl, Nat.le_of_ble_eq_true rfl⟩ ⟨Nat.zero_le _, Nat.zero_le _⟩ rfl (Nat.le_of_ble_eq_true rfl) dX11_tribe_2 rfl (fun H locs hH hS => ?_)
  refine lv_if_ne (tgt := 10) (pc := 5) hx hb dX11_tribe_5 (by decide) (fun hc => ?_) (fun hc => ?_)
  · have hf := gif_n hc hf
    refine lv_iload_n (pc := 10) hx hb dX11_tribe_10 rfl (lv_at hl 2 rfl) ?_
    by_cases hw11_0 : a2 = 0
    · have hf := gif_p hw11_0 hf
      refine g_tswI (tgt := 52) (off := 41) (pc := 11) hx hb hw11_0 dX11_tribe_11 (by decide) (by decide) (by decide) (by decide) ?_
      refine lv_aload_n (pc := 52) hx hb dX11_tribe_52 rfl (lv_at hl 0 rfl) ?_
      refine g_get (pc := 53) (v := .ref (ad 12)) hC hU hH gk1_0 g_cl11 27 (by decide) kf_X11_48 rfl dX11_tribe_53 ?_
      refine lv_iload_n (pc := 56) hx hb dX11_tribe_56 rfl (lv_at hl 1 rfl) ?_
      obtain ⟨h0_1, hf⟩ := gc_s hf
      refine g_iald (pc := 57) hC hU hH gk1_12 gn1_12 h0_1 dX11_tribe_57 ?_
      exact g_iret (pc := 58) hC hret hlk hH hS hf dX11_tribe_58
    · have hf := gif_n hw11_0 hf
      by_cases hw11_1 : a2 = 1
      · have hf := gif_p hw11_1 hf
        refine g_tswI (tgt := 59) (off := 48) (pc := 11) hx hb hw11_1 dX11_tribe_11 (by decide) (by decide) (by decide) (by decide) ?_
        refine lv_aload_n (pc := 59) hx hb dX11_tribe_59 rfl (lv_at hl 0 rfl) ?_
        refine g_get (pc := 60) (v := .ref (ad 13)) hC hU hH gk1_0 g_cl11 28 (by decide) kf_X11_51 rfl dX11_tribe_60 ?_
        refine lv_iload_n (pc := 63) hx hb dX11_tribe_63 rfl (lv_at hl 1 rfl) ?_
        obtain ⟨h0_2, hf⟩ := gc_s hf
        refine g_iald (pc := 64) hC hU hH gk1_13 gn1_13 h0_2 dX11_tribe_64 ?_
        exact g_iret (pc := 65) hC hret hlk hH hS hf dX11_tribe_65
      · have hf := gif_n hw11_1 hf
        by_cases hw11_2 : a2 = 2
        · have hf := gif_p hw11_2 hf
          refine g_tswI (tgt := 66) (off := 55) (pc := 11) hx hb hw11_2 dX11_tribe_11 (by decide) (by decide) (by decide) (by decide) ?_
          refine lv_aload_n (pc := 66) hx hb dX11_tribe_66 rfl (lv_at hl 0 rfl) ?_
          refine g_get (pc := 67) (v := .ref (ad 27)) hC hU hH gk1_0 g_cl11 42 (by decide) kf_X11_94 rfl dX11_tribe_67 ?_
          refine lv_iload_n (pc := 70) hx hb dX11_tribe_70 rfl (lv_at hl 1 rfl) ?_
          obtain ⟨h0_3, hf⟩ := gc_s hf
          refine g_zald (pc := 71) hC hU hH gk1_27 gn1_27 h0_3 dX11_tribe_71 ?_
          obtain ⟨q0_2, hq0_2, hf⟩ := gbd hf
          refine g_callSi (pc := 72) (rest := []) hC hU hH hS hl.1 (mX11_truth  hq0_2) ky_X11_truth km_X11_325 ⟨Nat.le_of_ble_eq_true rfl, Nat.le_of_ble_eq_true rfl⟩ ⟨Nat.zero_le _, Nat.zero_le _⟩ rfl (Nat.le_of_ble_eq_true rfl) dX11_tribe_72 rfl (fun H locs hH hS => ?_)
          exact g_iret (pc := 75) hC hret hlk hH hS hf dX11_tribe_75
        · have hf := gif_n hw11_2 hf
          by_cases hw11_3 : a2 = 3
          · have hf := gif_p hw11_3 hf
            refine g_tswI (tgt := 76) (off := 65) (pc := 11) hx hb hw11_3 dX11_tribe_11 (by decide) (by decide) (by decide) (by decide) ?_
            refine lv_aload_n (pc := 76) hx hb dX11_tribe_76 rfl (lv_at hl 0 rfl) ?_
            refine g_get (pc := 77) (v := .ref (ad 28)) hC hU hH gk1_0 g_cl11 55 (by decide) kf_X11_100 rfl dX11_tribe_77 ?_
            refine lv_iconst (v := 4) (pc := 80) hx hb dX11_tribe_80 (by decide) ?_
            refine lv_iload_n (pc := 81) hx hb dX11_tribe_81 rfl (lv_at hl 1 rfl) ?_
            refine lv_iadd (pc := 82) hx hb dX11_tribe_82 ?_
            obtain ⟨h0_4, hf⟩ := gc_s hf
            refine g_iald (pc := 83) hC hU hH gk1_28 gn1_28 h0_4 dX11_tribe_83 ?_
            exact g_iret (pc := 84) hC hret hlk hH hS hf dX11_tribe_84
          · have hf := gif_n hw11_3 hf
            by_cases hw11_4 : a2 = 4
            · have hf := gif_p hw11_4 hf
              refine g_tswI (tgt := 85) (off := 74) (pc := 11) hx hb hw11_4 dX11_tribe_11 (by decide) (by decide) (by decide) (by decide) ?_
              refine lv_aload_n (pc := 85) hx hb dX11_tribe_85 rfl (lv_at hl 0 rfl) ?_
              refine g_get (pc := 86) (v := .ref (ad 28)) hC hU hH gk1_0 g_cl11 55 (by decide) kf_X11_100 rfl dX11_tribe_86 ?_
              refine lv_bipush (v := 9) (pc := 89) hx hb dX11_tribe_89 (by decide) ?_
              refine lv_iload_n (pc := 91) hx hb dX11_tribe_91 rfl (lv_at hl 1 rfl) ?_
              refine lv_iadd (pc := 92) hx hb dX11_tribe_92 ?_
              obtain ⟨h0_5, hf⟩ := gc_s hf
              refine g_iald (pc := 93) hC hU hH gk1_28 gn1_28 h0_5 dX11_tribe_93 ?_
              exact g_iret (pc := 94) hC hret hlk hH hS hf dX11_tribe_94
            · have hf := gif_n hw11_4 hf
              by_cases hw11_5 : a2 = 5
              · have hf := gif_p hw11_5 hf
                refine g_tswI (tgt := 95) (off := 84) (pc := 11) hx hb hw11_5 dX11_tribe_11 (by decide) (by decide) (by decide) (by decide) ?_
                refine lv_aload_n (pc := 95) hx hb dX11_tribe_95 rfl (lv_at hl 0 rfl) ?_
                refine lv_iload_n (pc := 96) hx hb dX11_tribe_96 rfl (lv_at hl 1 rfl) ?_
                refine lv_bipush (v := (-2)) (pc := 97) hx hb dX11_tribe_97 (by decide) ?_
                obtain ⟨q0_3, hq0_3, hf⟩ := gbd hf
                refine g_callVi (pc := 99) (rest := []) hC hU hH hS hl.1 gk1_0 rfl (by decide) (mX11_movesOf  hq0_3) ky_X11_movesOf km_X11_434 ⟨Nat.le_of_ble_eq_true rfl, Nat.le_of_ble_eq_true rfl⟩ ⟨Nat.zero_le _, Nat.zero_le _⟩ rfl (Nat.le_of_ble_eq_true rfl) dX11_tribe_99 rfl (fun H locs hH hS => ?_)
                exact g_iret (pc := 102) hC hret hlk hH hS hf dX11_tribe_102
              · have hf := gif_n hw11_5 hf
                by_cases hw11_6 : a2 = 6
                · have hf := gif_p hw11_6 hf
                  refine g_tswI (tgt := 103) (off := 92) (pc := 11) hx hb hw11_6 dX11_tribe_11 (by decide) (by decide) (by decide) (by decide) ?_
                  refine lv_iload_n (pc := 103) hx hb dX11_tribe_103 rfl (lv_at hl 1 rfl) ?_
                  refine lv_aload_n (pc := 104) hx hb dX11_tribe_104 rfl (lv_at hl 0 rfl) ?_
                  refine g_get (pc := 105) (v := .ref (ad 28)) hC hU hH gk1_0 g_cl11 55 (by decide) kf_X11_100 rfl dX11_tribe_105 ?_
                  refine lv_iconst (v := 1) (pc := 108) hx hb dX11_tribe_108 (by decide) ?_
                  obtain ⟨h0_6, hf⟩ := gc_s hf
                  refine g_iald (pc := 109) hC hU hH gk1_28 gn1_28 h0_6 dX11_tribe_109 ?_
                  refine lv_icmp_ne (tgt := 117) (pc := 110) hx hb dX11_tribe_110 (by decide) (fun hc => ?_) (fun hc => ?_)
                  · have hf := gif_n hc hf
                    refine lv_aload_n (pc := 117) hx hb dX11_tribe_117 rfl (lv_at hl 0 rfl) ?_
                    refine lv_iload_n (pc := 118) hx hb dX11_tribe_118 rfl (lv_at hl 1 rfl) ?_
                    refine lv_aload_n (pc := 119) hx hb dX11_tribe_119 rfl (lv_at hl 0 rfl) ?_
                    refine g_get (pc := 120) (v := .ref (ad 28)) hC hU hH gk1_0 g_cl11 55 (by decide) kf_X11_100 rfl dX11_tribe_120 ?_
                    refine lv_iconst (v := 0) (pc := 123) hx hb dX11_tribe_123 (by decide) ?_
                    obtain ⟨h0_7, hf⟩ := gc_s hf
                    refine g_iald (pc := 124) hC hU hH gk1_28 gn1_28 h0_7 dX11_tribe_124 ?_
                    obtain ⟨q0_4, hq0_4, hf⟩ := gbd hf
                    refine g_callVi (pc := 125) (rest := []) hC hU hH hS hl.1 gk1_0 rfl (by decide) (mX11_movesOf  hq0_4) ky_X11_movesOf km_X11_434 ⟨Nat.le_of_ble_eq_true rfl, Nat.le_of_ble_eq_true rfl⟩ ⟨Nat.zero_le _, Nat.zero_le _⟩ rfl (Nat.le_of_ble_eq_true rfl) dX11_tribe_125 rfl (fun H locs hH hS => ?_)
                    exact g_iret (pc := 128) hC hret hlk hH hS hf dX11_tribe_128
                  · have hf := gif_p hc hf
                    refine lv_iconst (v := 0) (pc := 113) hx hb dX11_tribe_113 (by decide) ?_
                    refine lv_goto (tgt := 128) (pc := 114) hx hb dX11_tribe_114 (by decide) ?_
                    exact g_iret (pc := 128) hC hret hlk hH hS hf dX11_tribe_128
                · have hf := gif_n hw11_6 hf
                  refine g_tswO (tgt := 129) (n := 7) (pc := 11) hx hb dX11_tribe_11 (by intro j hj; match j, hj with | 0, _ => exact hw11_0 | 1, _ => exact hw11_1 | 2, _ => exact hw11_2 | 3, _ => exact hw11_3 | 4, _ => exact hw11_4 | 5, _ => exact hw11_5 | 6, _ => exact hw11_6 | n + 7, h => exact absurd h (by omega)) rfl (by decide) ?_
                  refine lv_iconst (v := (-1)) (pc := 129) hx hb dX11_tribe_129 (by decide) ?_
                  exact g_iret (pc := 130) hC hret hlk hH hS hf dX11_tribe_130
  · have hf := gif_p hc hf
    refine lv_iconst (v := (-1)) (pc := 8) hx hb dX11_tribe_8 (by decide) ?_
    exact g_iret (pc := 9) hC hret hlk hH hS hf dX11_tribe_9
set_option maxRecDepth 100000 in
set_option maxHeartbeats 4000000 in
theorem mX11_tribe {l : Launch} {D : va_G} {cA : Nat → ClassId} {ad : Nat → Nat} {a1 : Int32} {a2 : Int32}  {r : Int32} {st st' : gS} (hf : fX11_tribe a1 a2 st = some (r, st')) : gM l yX11_tribe cX11_tribe 3 (some .int) 4 1 D cA ad st [.ref (ad 0), .int a1, .int a2] (some (.int r)) st' := by
  refine g_met (by decide) (Nat.le_of_ble_eq_true rfl) ?_
  intro p e s m args below meth c ls hC hret hlk hU hH hl
  exact bX11_tribe_0 hC hret hlk hU hf hH va_S.rf hl
def fX11_isMove (a1 : Int32)   (st : gS) : Option (Int32 × gS) :=
  (fX11_isIn a1 0 ((st.1 0 50) - 1) st).bind fun q0_1 => (gc (gB q0_1.1) (some (q0_1.1, q0_1.2)))
set_option maxRecDepth 100000 in
set_option maxHeartbeats 4000000 in
theorem bX11_isMove_0 {a1 : Int32} (hC : CallFix p m c cX11_isMove 2 s args lw_good RX11) (hret : meth.sig.returnType = (some .boolean)) (hlk : meth.locks = false) (hU : gU 1 D cA ad s)  {r : Int32} {st' : gS}   {st : gS} {H : Heap} {locs : List Loc} {ls : Array Slot} (hf : fX11_isMove a1 st = some (r, st')) (hH : gP0 1 D cA ad st H) (hS : va_S (gA 1 ad) s.heap H locs) (hl : lv_has ls 2 [(0, .ref (ad 0)), (1, .int a1)]) : W p l e (gRm 2) s m args below meth c H locs 0 0 (MQ below (gQc 1 D cA ad st' (some (.int r))) args s 0 0 (gA 1 ad)) (F0 m 0 ls []) := by
  obtain ⟨hx, hb, hml, hown, hts⟩ := id hC
  unfold fX11_isMove at hf
  refine lv_iload_n (pc := 0) hx hb dX11_isMove_0 rfl (lv_at hl 1 rfl) ?_
  refine lv_iconst (v := 0) (pc := 1) hx hb dX11_isMove_1 (by decide) ?_
  refine lv_aload_n (pc := 2) hx hb dX11_isMove_2 rfl (lv_at hl 0 rfl) ?_
  refine g_get (pc := 3) (v := .int (st.1 0 50)) hC hU hH gk1_0 g_cl11 50 (by decide) kf_X11_398 rfl dX11_isMove_3 ?_
  refine lv_iconst (v := 1) (pc := 6) hx hb dX11_isMove_6 (by decide) ?_
  refine lv_isub (pc := 7) hx hb dX11_isMove_7 ?_
  obtain ⟨q0_1, hq0_1, hf⟩ := gbd hf
  refine g_callSi (pc := 8) (rest := []) hC hU hH hS hl.1 (mX11_isIn  hq0_1) ky_X11_isIn km_X11_416 ⟨Nat.le_of_ble_eq_true rfl, Nat.le_of_ble_eq_true rfl⟩ ⟨Nat.zero_le _, Nat.zero_le _⟩ rfl (Nat.le_of_ble_eq_true rfl) dX11_isMove_8 rfl (fun H locs hH hS => ?_)
  obtain ⟨h0_1, hf⟩ := gc_s hf
  exact g_zret (pc := 11) hC hret hlk hH hS h0_1 hf dX11_isMove_11
set_option maxRecDepth 100000 in
set_option maxHeartbeats 4000000 in
theorem mX11_isMove {l : Launch} {D : va_G} {cA : Nat → ClassId} {ad : Nat → Nat} {a1 : Int32}  {r : Int32} {st st' : gS} (hf : fX11_isMove a1 st = some (r, st')) : gM l yX11_isMove cX11_isMove 2 (some .boolean) 2 1 D cA ad st [.ref (ad 0), .int a1] (some (.int r)) st' := by
  refine g_met (by decide) (Nat.le_of_ble_eq_true rfl) ?_
  intro p e s m args below meth c ls hC hret hlk hU hH hl
  exact bX11_isMove_0 hC hret hlk hU hf hH va_S.rf hl
def fX11_whoCan_4 (a1 : Int32) (k4 : Int32 → Int32 → gS → Option (Int32 × gS)) (l2 : Int32) (l3 : Int32) (st : gS) : Option (Int32 × gS) :=
  if (st.1 0 49) ≤ l3 then (some (l2, st)) else ((fX11_can l3 a1 st).bind fun q4_1 => ((fX11_truth q4_1.1 q4_1.2).bind fun q4_2 => (gl (l2 ||| (q4_2.1 <<< (l3 &&& 31))) fun x25 => (k4 x25 (l3 + 1) q4_2.2))))
set_option maxRecDepth 100000 in
set_option maxHeartbeats 4000000 in
theorem bX11_whoCan_4 {a1 : Int32} (hC : CallFix p m c cX11_whoCan 4 s args lw_good RX11) (hret : meth.sig.returnType = (some .int)) (hlk : meth.locks = false) (hU : gU 1 D cA ad s)  {r : Int32} {st' : gS} {k4 : Int32 → Int32 → gS → Option (Int32 × gS)} (hk4 : ∀ {l2 : Int32} {l3 : Int32} {st : gS} {H : Heap} {locs : List Loc} {ls : Array Slot}, k4 l2 l3 st = some (r, st') → gP0 1 D cA ad st H → va_S (gA 1 ad) s.heap H locs → lv_has ls 4 [(0, .ref (ad 0)), (1, .int a1), (2, .int l2), (3, .int l3)] → W p l e (gRm 3) s m args below meth c H locs 0 0 (MQ below (gQc 1 D cA ad st' (some (.int r))) args s 0 0 (gA 1 ad)) (F0 m 4 ls [])) {l2 : Int32} {l3 : Int32} {st : gS} {H : Heap} {locs : List Loc} {ls : Array Slot} (hf : fX11_whoCan_4 a1 k4 l2 l3 st = some (r, st')) (hH : gP0 1 D cA ad st H) (hS : va_S (gA 1 ad) s.heap H locs) (hl : lv_has ls 4 [(0, .ref (ad 0)), (1, .int a1), (2, .int l2), (3, .int l3)]) : W p l e (gRm 3) s m args below meth c H locs 0 0 (MQ below (gQc 1 D cA ad st' (some (.int r))) args s 0 0 (gA 1 ad)) (F0 m 4 ls []) := by
  obtain ⟨hx, hb, hml, hown, hts⟩ := id hC
  unfold fX11_whoCan_4 at hf
  refine lv_iload_n (pc := 4) hx hb dX11_whoCan_4 rfl (lv_at hl 3 rfl) ?_
  refine lv_aload_n (pc := 5) hx hb dX11_whoCan_5 rfl (lv_at hl 0 rfl) ?_
  refine g_get (pc := 6) (v := .int (st.1 0 49)) hC hU hH gk1_0 g_cl11 49 (by decide) kf_X11_395 rfl dX11_whoCan_6 ?_
  refine lv_icmp_ge (tgt := 32) (pc := 9) hx hb dX11_whoCan_9 (by decide) (fun hc => ?_) (fun hc => ?_)
  · have hf := gif_p hc hf
    refine lv_iload_n (pc := 32) hx hb dX11_whoCan_32 rfl (lv_at hl 2 rfl) ?_
    exact g_iret (pc := 33) hC hret hlk hH hS hf dX11_whoCan_33
  · have hf := gif_n hc hf
    refine lv_iload_n (pc := 12) hx hb dX11_whoCan_12 rfl (lv_at hl 2 rfl) ?_
    refine lv_aload_n (pc := 13) hx hb dX11_whoCan_13 rfl (lv_at hl 0 rfl) ?_
    refine lv_iload_n (pc := 14) hx hb dX11_whoCan_14 rfl (lv_at hl 3 rfl) ?_
    refine lv_iload_n (pc := 15) hx hb dX11_whoCan_15 rfl (lv_at hl 1 rfl) ?_
    obtain ⟨q4_1, hq4_1, hf⟩ := gbd hf
    refine g_callVi (pc := 16) (rest := [.int l2]) hC hU hH hS hl.1 gk1_0 rfl (by decide) (mX11_can  hq4_1) ky_X11_can km_X11_427 ⟨Nat.le_of_ble_eq_true rfl, Nat.le_of_ble_eq_true rfl⟩ ⟨Nat.zero_le _, Nat.zero_le _⟩ rfl (Nat.le_of_ble_eq_true rfl) dX11_whoCan_16 rfl (fun H locs hH hS => ?_)
    obtain ⟨q4_2, hq4_2, hf⟩ := gbd hf
    refine g_callSi (pc := 19) (rest := [.int l2]) hC hU hH hS hl.1 (mX11_truth  hq4_2) ky_X11_truth km_X11_325 ⟨Nat.le_of_ble_eq_true rfl, Nat.le_of_ble_eq_true rfl⟩ ⟨Nat.zero_le _, Nat.zero_le _⟩ rfl (Nat.le_of_ble_eq_true rfl) dX11_whoCan_19 rfl (fun H locs hH hS => ?_)
    refine lv_iload_n (pc := 22) hx hb dX11_whoCan_22 rfl (lv_at hl 3 rfl) ?_
    refine lv_ishl (pc := 23) hx hb dX11_whoCan_23 ?_
    refine lv_ior (pc := 24) hx hb dX11_whoCan_24 ?_
    refine lv_topi (pc := 25) (fun x25 ex25 => ?_)
    have hf := gl_s ex25 hf
    refine lv_istore_n (lv' := [(2, .int x25), (0, .ref (ad 0)), (1, .int a1), (3, .int l3)]) (pc := 25) hx hb dX11_whoCan_25 rfl hl (by decide) rfl (fun ls hl => ?_)
    refine lv_iinc (v := l3 + 1) (lv' := [(3, .int (l3 + 1)), (2, .int x25), (0, .ref (ad 0)), (1, .int a1)]) (k := 3) (pc := 26) hx hb dX11_whoCan_26 hl rfl rfl (by decide) rfl (fun ls hl => ?_)
    refine lv_goto (tgt := 4) (pc := 29) hx hb dX11_whoCan_29 (by decide) ?_
    exact hk4 hf hH hS (lv_sub hl [2, 3, 1, 0] rfl)
def hX11_whoCan_4 (a1 : Int32)  : Nat → Int32 → Int32 → gS → Option (Int32 × gS)
  | 0 => fun _ _ _ => none
  | n + 1 => fun l2 l3 st => fX11_whoCan_4 a1 (hX11_whoCan_4 a1 n) l2 l3 st
set_option maxRecDepth 100000 in
set_option maxHeartbeats 4000000 in
theorem wX11_whoCan_4 {a1 : Int32} (hC : CallFix p m c cX11_whoCan 4 s args lw_good RX11) (hret : meth.sig.returnType = (some .int)) (hlk : meth.locks = false) (hU : gU 1 D cA ad s)  {r : Int32} {st' : gS}  : ∀ (n : Nat) {l2 : Int32} {l3 : Int32} {st : gS} {H : Heap} {locs : List Loc} {ls : Array Slot}, hX11_whoCan_4 a1 n l2 l3 st = some (r, st') → gP0 1 D cA ad st H → va_S (gA 1 ad) s.heap H locs → lv_has ls 4 [(0, .ref (ad 0)), (1, .int a1), (2, .int l2), (3, .int l3)] → W p l e (gRm 3) s m args below meth c H locs 0 0 (MQ below (gQc 1 D cA ad st' (some (.int r))) args s 0 0 (gA 1 ad)) (F0 m 4 ls []) := by
  intro n
  induction n with
  | zero => intro l2 l3 st H locs ls hf hH hS hl; cases hf
  | succ n ih =>
    intro l2 l3 st H locs ls hf hH hS hl
    exact bX11_whoCan_4 (a1 := a1) hC hret hlk hU (fun hf hH hS hl => ih hf hH hS hl) hf hH hS hl
def fX11_whoCan (a1 : Int32)   (st : gS) : Option (Int32 × gS) :=
  hX11_whoCan_4 a1 FU 0 0 st
set_option maxRecDepth 100000 in
set_option maxHeartbeats 4000000 in
theorem bX11_whoCan_0 {a1 : Int32} (hC : CallFix p m c cX11_whoCan 4 s args lw_good RX11) (hret : meth.sig.returnType = (some .int)) (hlk : meth.locks = false) (hU : gU 1 D cA ad s)  {r : Int32} {st' : gS}   {st : gS} {H : Heap} {locs : List Loc} {ls : Array Slot} (hf : fX11_whoCan a1 st = some (r, st')) (hH : gP0 1 D cA ad st H) (hS : va_S (gA 1 ad) s.heap H locs) (hl : lv_has ls 4 [(0, .ref (ad 0)), (1, .int a1)]) : W p l e (gRm 3) s m args below meth c H locs 0 0 (MQ below (gQc 1 D cA ad st' (some (.int r))) args s 0 0 (gA 1 ad)) (F0 m 0 ls []) := by
  obtain ⟨hx, hb, hml, hown, hts⟩ := id hC
  unfold fX11_whoCan at hf
  refine lv_iconst (v := 0) (pc := 0) hx hb dX11_whoCan_0 (by decide) ?_
  refine lv_istore_n (lv' := [(2, .int 0), (0, .ref (ad 0)), (1, .int a1)]) (pc := 1) hx hb dX11_whoCan_1 rfl hl (by decide) rfl (fun ls hl => ?_)
  refine lv_iconst (v := 0) (pc := 2) hx hb dX11_whoCan_2 (by decide) ?_
  refine lv_istore_n (lv' := [(3, .int 0), (2, .int 0), (0, .ref (ad 0)), (1, .int a1)]) (pc := 3) hx hb dX11_whoCan_3 rfl hl (by decide) rfl (fun ls hl => ?_)
  exact wX11_whoCan_4 hC hret hlk hU FU hf hH hS (lv_sub hl [2, 3, 1, 0] rfl)
set_option maxRecDepth 100000 in
set_option maxHeartbeats 4000000 in
theorem mX11_whoCan {l : Launch} {D : va_G} {cA : Nat → ClassId} {ad : Nat → Nat} {a1 : Int32}  {r : Int32} {st st' : gS} (hf : fX11_whoCan a1 st = some (r, st')) : gM l yX11_whoCan cX11_whoCan 4 (some .int) 3 1 D cA ad st [.ref (ad 0), .int a1] (some (.int r)) st' := by
  refine g_met (by decide) (Nat.le_of_ble_eq_true rfl) ?_
  intro p e s m args below meth c ls hC hret hlk hU hH hl
  exact bX11_whoCan_0 hC hret hlk hU hf hH va_S.rf hl
def fX11_move (a1 : Int32) (a2 : Int32)   (st : gS) : Option (Int32 × gS) :=
  (fX11_isMove a1 st).bind fun q0_1 => (if q0_1.1 = 0 then (some ((-2), q0_1.2)) else (if a2 = 0 then (gc (gI a1 16) (some (q0_1.2.1 21 a1.toNatClampNeg, q0_1.2))) else if a2 = 1 then (gc (gI a1 16) (some (q0_1.2.1 22 a1.toNatClampNeg, q0_1.2))) else if a2 = 2 then (gc (gI a1 16) (some (q0_1.2.1 23 a1.toNatClampNeg, q0_1.2))) else if a2 = 3 then (gc (gI a1 16) (some (q0_1.2.1 24 a1.toNatClampNeg, q0_1.2))) else if a2 = 4 then (gc (gI a1 16) (some (q0_1.2.1 25 a1.toNatClampNeg, q0_1.2))) else if a2 = 5 then ((fX11_whoCan a1 q0_1.2).bind fun q0_2 => (some (q0_2.1, q0_2.2))) else (some ((-2), q0_1.2))))
set_option maxRecDepth 100000 in
set_option maxHeartbeats 4000000 in
theorem bX11_move_0 {a1 : Int32} {a2 : Int32} (hC : CallFix p m c cX11_move 3 s args lw_good RX11) (hret : meth.sig.returnType = (some .int)) (hlk : meth.locks = false) (hU : gU 1 D cA ad s)  {r : Int32} {st' : gS}   {st : gS} {H : Heap} {locs : List Loc} {ls : Array Slot} (hf : fX11_move a1 a2 st = some (r, st')) (hH : gP0 1 D cA ad st H) (hS : va_S (gA 1 ad) s.heap H locs) (hl : lv_has ls 3 [(0, .ref (ad 0)), (1, .int a1), (2, .int a2)]) : W p l e (gRm 4) s m args below meth c H locs 0 0 (MQ below (gQc 1 D cA ad st' (some (.int r))) args s 0 0 (gA 1 ad)) (F0 m 0 ls []) := by
  obtain ⟨hx, hb, hml, hown, hts⟩ := id hC
  unfold fX11_move at hf
  refine lv_aload_n (pc := 0) hx hb dX11_move_0 rfl (lv_at hl 0 rfl) ?_
  refine lv_iload_n (pc := 1) hx hb dX11_move_1 rfl (lv_at hl 1 rfl) ?_
  obtain ⟨q0_1, hq0_1, hf⟩ := gbd hf
  refine g_callVi (pc := 2) (rest := []) hC hU hH hS hl.1 gk1_0 rfl (by decide) (mX11_isMove  hq0_1) ky_X11_isMove km_X11_437 ⟨Nat.le_of_ble_eq_true rfl, Nat.le_of_ble_eq_true rfl⟩ ⟨Nat.zero_le _, Nat.zero_le _⟩ rfl (Nat.le_of_ble_eq_true rfl) dX11_move_2 rfl (fun H locs hH hS => ?_)
  refine lv_if_ne (tgt := 11) (pc := 5) hx hb dX11_move_5 (by decide) (fun hc => ?_) (fun hc => ?_)
  · have hf := gif_n hc hf
    refine lv_iload_n (pc := 11) hx hb dX11_move_11 rfl (lv_at hl 2 rfl) ?_
    by_cases hw12_0 : a2 = 0
    · have hf := gif_p hw12_0 hf
      refine g_tswI (tgt := 52) (off := 40) (pc := 12) hx hb hw12_0 dX11_move_12 (by decide) (by decide) (by decide) (by decide) ?_
      refine lv_aload_n (pc := 52) hx hb dX11_move_52 rfl (lv_at hl 0 rfl) ?_
      refine g_get (pc := 53) (v := .ref (ad 21)) hC hU hH gk1_0 g_cl11 36 (by decide) kf_X11_75 rfl dX11_move_53 ?_
      refine lv_iload_n (pc := 56) hx hb dX11_move_56 rfl (lv_at hl 1 rfl) ?_
      obtain ⟨h0_1, hf⟩ := gc_s hf
      refine g_iald (pc := 57) hC hU hH gk1_21 gn1_21 h0_1 dX11_move_57 ?_
      exact g_iret (pc := 58) hC hret hlk hH hS hf dX11_move_58
    · have hf := gif_n hw12_0 hf
      by_cases hw12_1 : a2 = 1
      · have hf := gif_p hw12_1 hf
        refine g_tswI (tgt := 59) (off := 47) (pc := 12) hx hb hw12_1 dX11_move_12 (by decide) (by decide) (by decide) (by decide) ?_
        refine lv_aload_n (pc := 59) hx hb dX11_move_59 rfl (lv_at hl 0 rfl) ?_
        refine g_get (pc := 60) (v := .ref (ad 22)) hC hU hH gk1_0 g_cl11 37 (by decide) kf_X11_78 rfl dX11_move_60 ?_
        refine lv_iload_n (pc := 63) hx hb dX11_move_63 rfl (lv_at hl 1 rfl) ?_
        obtain ⟨h0_2, hf⟩ := gc_s hf
        refine g_iald (pc := 64) hC hU hH gk1_22 gn1_22 h0_2 dX11_move_64 ?_
        exact g_iret (pc := 65) hC hret hlk hH hS hf dX11_move_65
      · have hf := gif_n hw12_1 hf
        by_cases hw12_2 : a2 = 2
        · have hf := gif_p hw12_2 hf
          refine g_tswI (tgt := 66) (off := 54) (pc := 12) hx hb hw12_2 dX11_move_12 (by decide) (by decide) (by decide) (by decide) ?_
          refine lv_aload_n (pc := 66) hx hb dX11_move_66 rfl (lv_at hl 0 rfl) ?_
          refine g_get (pc := 67) (v := .ref (ad 23)) hC hU hH gk1_0 g_cl11 38 (by decide) kf_X11_81 rfl dX11_move_67 ?_
          refine lv_iload_n (pc := 70) hx hb dX11_move_70 rfl (lv_at hl 1 rfl) ?_
          obtain ⟨h0_3, hf⟩ := gc_s hf
          refine g_iald (pc := 71) hC hU hH gk1_23 gn1_23 h0_3 dX11_move_71 ?_
          exact g_iret (pc := 72) hC hret hlk hH hS hf dX11_move_72
        · have hf := gif_n hw12_2 hf
          by_cases hw12_3 : a2 = 3
          · have hf := gif_p hw12_3 hf
            refine g_tswI (tgt := 73) (off := 61) (pc := 12) hx hb hw12_3 dX11_move_12 (by decide) (by decide) (by decide) (by decide) ?_
            refine lv_aload_n (pc := 73) hx hb dX11_move_73 rfl (lv_at hl 0 rfl) ?_
            refine g_get (pc := 74) (v := .ref (ad 24)) hC hU hH gk1_0 g_cl11 39 (by decide) kf_X11_84 rfl dX11_move_74 ?_
            refine lv_iload_n (pc := 77) hx hb dX11_move_77 rfl (lv_at hl 1 rfl) ?_
            obtain ⟨h0_4, hf⟩ := gc_s hf
            refine g_iald (pc := 78) hC hU hH gk1_24 gn1_24 h0_4 dX11_move_78 ?_
            exact g_iret (pc := 79) hC hret hlk hH hS hf dX11_move_79
          · have hf := gif_n hw12_3 hf
            by_cases hw12_4 : a2 = 4
            · have hf := gif_p hw12_4 hf
              refine g_tswI (tgt := 80) (off := 68) (pc := 12) hx hb hw12_4 dX11_move_12 (by decide) (by decide) (by decide) (by decide) ?_
              refine lv_aload_n (pc := 80) hx hb dX11_move_80 rfl (lv_at hl 0 rfl) ?_
              refine g_get (pc := 81) (v := .ref (ad 25)) hC hU hH gk1_0 g_cl11 40 (by decide) kf_X11_87 rfl dX11_move_81 ?_
              refine lv_iload_n (pc := 84) hx hb dX11_move_84 rfl (lv_at hl 1 rfl) ?_
              obtain ⟨h0_5, hf⟩ := gc_s hf
              refine g_iald (pc := 85) hC hU hH gk1_25 gn1_25 h0_5 dX11_move_85 ?_
              exact g_iret (pc := 86) hC hret hlk hH hS hf dX11_move_86
            · have hf := gif_n hw12_4 hf
              by_cases hw12_5 : a2 = 5
              · have hf := gif_p hw12_5 hf
                refine g_tswI (tgt := 87) (off := 75) (pc := 12) hx hb hw12_5 dX11_move_12 (by decide) (by decide) (by decide) (by decide) ?_
                refine lv_aload_n (pc := 87) hx hb dX11_move_87 rfl (lv_at hl 0 rfl) ?_
                refine lv_iload_n (pc := 88) hx hb dX11_move_88 rfl (lv_at hl 1 rfl) ?_
                obtain ⟨q0_2, hq0_2, hf⟩ := gbd hf
                refine g_callVi (pc := 89) (rest := []) hC hU hH hS hl.1 gk1_0 rfl (by decide) (mX11_whoCan  hq0_2) ky_X11_whoCan km_X11_440 ⟨Nat.le_of_ble_eq_true rfl, Nat.le_of_ble_eq_true rfl⟩ ⟨Nat.zero_le _, Nat.zero_le _⟩ rfl (Nat.le_of_ble_eq_true rfl) dX11_move_89 rfl (fun H locs hH hS => ?_)
                exact g_iret (pc := 92) hC hret hlk hH hS hf dX11_move_92
              · have hf := gif_n hw12_5 hf
                refine g_tswO (tgt := 93) (n := 6) (pc := 12) hx hb dX11_move_12 (by intro j hj; match j, hj with | 0, _ => exact hw12_0 | 1, _ => exact hw12_1 | 2, _ => exact hw12_2 | 3, _ => exact hw12_3 | 4, _ => exact hw12_4 | 5, _ => exact hw12_5 | n + 6, h => exact absurd h (by omega)) rfl (by decide) ?_
                refine lv_bipush (v := (-2)) (pc := 93) hx hb dX11_move_93 (by decide) ?_
                exact g_iret (pc := 95) hC hret hlk hH hS hf dX11_move_95
  · have hf := gif_p hc hf
    refine lv_bipush (v := (-2)) (pc := 8) hx hb dX11_move_8 (by decide) ?_
    exact g_iret (pc := 10) hC hret hlk hH hS hf dX11_move_10
set_option maxRecDepth 100000 in
set_option maxHeartbeats 4000000 in
theorem mX11_move {l : Launch} {D : va_G} {cA : Nat → ClassId} {ad : Nat → Nat} {a1 : Int32} {a2 : Int32}  {r : Int32} {st st' : gS} (hf : fX11_move a1 a2 st = some (r, st')) : gM l yX11_move cX11_move 3 (some .int) 4 1 D cA ad st [.ref (ad 0), .int a1, .int a2] (some (.int r)) st' := by
  refine g_met (by decide) (Nat.le_of_ble_eq_true rfl) ?_
  intro p e s m args below meth c ls hC hret hlk hU hH hl
  exact bX11_move_0 hC hret hlk hU hf hH va_S.rf hl
def fX11_isFigure (a1 : Int32)   (st : gS) : Option (Int32 × gS) :=
  (fX11_isIn a1 0 ((st.1 0 48) - 1) st).bind fun q0_1 => (gc (gB q0_1.1) (some (q0_1.1, q0_1.2)))
set_option maxRecDepth 100000 in
set_option maxHeartbeats 4000000 in
theorem bX11_isFigure_0 {a1 : Int32} (hC : CallFix p m c cX11_isFigure 2 s args lw_good RX11) (hret : meth.sig.returnType = (some .boolean)) (hlk : meth.locks = false) (hU : gU 1 D cA ad s)  {r : Int32} {st' : gS}   {st : gS} {H : Heap} {locs : List Loc} {ls : Array Slot} (hf : fX11_isFigure a1 st = some (r, st')) (hH : gP0 1 D cA ad st H) (hS : va_S (gA 1 ad) s.heap H locs) (hl : lv_has ls 2 [(0, .ref (ad 0)), (1, .int a1)]) : W p l e (gRm 2) s m args below meth c H locs 0 0 (MQ below (gQc 1 D cA ad st' (some (.int r))) args s 0 0 (gA 1 ad)) (F0 m 0 ls []) := by
  obtain ⟨hx, hb, hml, hown, hts⟩ := id hC
  unfold fX11_isFigure at hf
  refine lv_iload_n (pc := 0) hx hb dX11_isFigure_0 rfl (lv_at hl 1 rfl) ?_
  refine lv_iconst (v := 0) (pc := 1) hx hb dX11_isFigure_1 (by decide) ?_
  refine lv_aload_n (pc := 2) hx hb dX11_isFigure_2 rfl (lv_at hl 0 rfl) ?_
  refine g_get (pc := 3) (v := .int (st.1 0 48)) hC hU hH gk1_0 g_cl11 48 (by decide) kf_X11_392 rfl dX11_isFigure_3 ?_
  refine lv_iconst (v := 1) (pc := 6) hx hb dX11_isFigure_6 (by decide) ?_
  refine lv_isub (pc := 7) hx hb dX11_isFigure_7 ?_
  obtain ⟨q0_1, hq0_1, hf⟩ := gbd hf
  refine g_callSi (pc := 8) (rest := []) hC hU hH hS hl.1 (mX11_isIn  hq0_1) ky_X11_isIn km_X11_416 ⟨Nat.le_of_ble_eq_true rfl, Nat.le_of_ble_eq_true rfl⟩ ⟨Nat.zero_le _, Nat.zero_le _⟩ rfl (Nat.le_of_ble_eq_true rfl) dX11_isFigure_8 rfl (fun H locs hH hS => ?_)
  obtain ⟨h0_1, hf⟩ := gc_s hf
  exact g_zret (pc := 11) hC hret hlk hH hS h0_1 hf dX11_isFigure_11
set_option maxRecDepth 100000 in
set_option maxHeartbeats 4000000 in
theorem mX11_isFigure {l : Launch} {D : va_G} {cA : Nat → ClassId} {ad : Nat → Nat} {a1 : Int32}  {r : Int32} {st st' : gS} (hf : fX11_isFigure a1 st = some (r, st')) : gM l yX11_isFigure cX11_isFigure 2 (some .boolean) 2 1 D cA ad st [.ref (ad 0), .int a1] (some (.int r)) st' := by
  refine g_met (by decide) (Nat.le_of_ble_eq_true rfl) ?_
  intro p e s m args below meth c ls hC hret hlk hU hH hl
  exact bX11_isFigure_0 hC hret hlk hU hf hH va_S.rf hl
def fX11_worthOf (a1 : Int32) (a2 : Int32)   (st : gS) : Option (Int32 × gS) :=
  if 0 ≤ a2 then (gc (gI ((8 * a1) + a2) 40) (some (st.1 15 ((8 * a1) + a2).toNatClampNeg, st))) else (some (0, st))
set_option maxRecDepth 100000 in
set_option maxHeartbeats 4000000 in
theorem bX11_worthOf_0 {a1 : Int32} {a2 : Int32} (hC : CallFix p m c cX11_worthOf 3 s args lw_good RX11) (hret : meth.sig.returnType = (some .int)) (hlk : meth.locks = false) (hU : gU 1 D cA ad s)  {r : Int32} {st' : gS}   {st : gS} {H : Heap} {locs : List Loc} {ls : Array Slot} (hf : fX11_worthOf a1 a2 st = some (r, st')) (hH : gP0 1 D cA ad st H) (hS : va_S (gA 1 ad) s.heap H locs) (hl : lv_has ls 3 [(0, .ref (ad 0)), (1, .int a1), (2, .int a2)]) : W p l e (gRm 1) s m args below meth c H locs 0 0 (MQ below (gQc 1 D cA ad st' (some (.int r))) args s 0 0 (gA 1 ad)) (F0 m 0 ls []) := by
  obtain ⟨hx, hb, hml, hown, hts⟩ := id hC
  unfold fX11_worthOf at hf
  refine lv_iload_n (pc := 0) hx hb dX11_worthOf_0 rfl (lv_at hl 2 rfl) ?_
  refine lv_if_ge (tgt := 8) (pc := 1) hx hb dX11_worthOf_1 (by decide) (fun hc => ?_) (fun hc => ?_)
  · have hf := gif_p hc hf
    refine lv_aload_n (pc := 8) hx hb dX11_worthOf_8 rfl (lv_at hl 0 rfl) ?_
    refine g_get (pc := 9) (v := .ref (ad 15)) hC hU hH gk1_0 g_cl11 30 (by decide) kf_X11_57 rfl dX11_worthOf_9 ?_
    refine lv_bipush (v := 8) (pc := 12) hx hb dX11_worthOf_12 (by decide) ?_
    refine lv_iload_n (pc := 14) hx hb dX11_worthOf_14 rfl (lv_at hl 1 rfl) ?_
    refine lv_imul (pc := 15) hx hb dX11_worthOf_15 ?_
    refine lv_iload_n (pc := 16) hx hb dX11_worthOf_16 rfl (lv_at hl 2 rfl) ?_
    refine lv_iadd (pc := 17) hx hb dX11_worthOf_17 ?_
    obtain ⟨h0_1, hf⟩ := gc_s hf
    refine g_iald (pc := 18) hC hU hH gk1_15 gn1_15 h0_1 dX11_worthOf_18 ?_
    exact g_iret (pc := 19) hC hret hlk hH hS hf dX11_worthOf_19
  · have hf := gif_n hc hf
    refine lv_iconst (v := 0) (pc := 4) hx hb dX11_worthOf_4 (by decide) ?_
    refine lv_goto (tgt := 19) (pc := 5) hx hb dX11_worthOf_5 (by decide) ?_
    exact g_iret (pc := 19) hC hret hlk hH hS hf dX11_worthOf_19
set_option maxRecDepth 100000 in
set_option maxHeartbeats 4000000 in
theorem mX11_worthOf {l : Launch} {D : va_G} {cA : Nat → ClassId} {ad : Nat → Nat} {a1 : Int32} {a2 : Int32}  {r : Int32} {st st' : gS} (hf : fX11_worthOf a1 a2 st = some (r, st')) : gM l yX11_worthOf cX11_worthOf 3 (some .int) 1 1 D cA ad st [.ref (ad 0), .int a1, .int a2] (some (.int r)) st' := by
  refine g_met (by decide) (Nat.le_of_ble_eq_true rfl) ?_
  intro p e s m args below meth c ls hC hret hlk hU hH hl
  exact bX11_worthOf_0 hC hret hlk hU hf hH va_S.rf hl
def fX11_worth (a1 : Int32) (a2 : Int32)   (st : gS) : Option (Int32 × gS) :=
  (fX11_isTribe a1 st).bind fun q0_1 => (if q0_1.1 = 0 then (some ((-1), q0_1.2)) else ((fX11_isFigure a2 q0_1.2).bind fun q0_2 => (if q0_2.1 = 0 then (some ((-1), q0_2.2)) else ((fX11_worthOf a1 a2 q0_2.2).bind fun q0_3 => (some (q0_3.1, q0_3.2))))))
set_option maxRecDepth 100000 in
set_option maxHeartbeats 4000000 in
theorem bX11_worth_0 {a1 : Int32} {a2 : Int32} (hC : CallFix p m c cX11_worth 3 s args lw_good RX11) (hret : meth.sig.returnType = (some .int)) (hlk : meth.locks = false) (hU : gU 1 D cA ad s)  {r : Int32} {st' : gS}   {st : gS} {H : Heap} {locs : List Loc} {ls : Array Slot} (hf : fX11_worth a1 a2 st = some (r, st')) (hH : gP0 1 D cA ad st H) (hS : va_S (gA 1 ad) s.heap H locs) (hl : lv_has ls 3 [(0, .ref (ad 0)), (1, .int a1), (2, .int a2)]) : W p l e (gRm 3) s m args below meth c H locs 0 0 (MQ below (gQc 1 D cA ad st' (some (.int r))) args s 0 0 (gA 1 ad)) (F0 m 0 ls []) := by
  obtain ⟨hx, hb, hml, hown, hts⟩ := id hC
  unfold fX11_worth at hf
  refine lv_aload_n (pc := 0) hx hb dX11_worth_0 rfl (lv_at hl 0 rfl) ?_
  refine lv_iload_n (pc := 1) hx hb dX11_worth_1 rfl (lv_at hl 1 rfl) ?_
  obtain ⟨q0_1, hq0_1, hf⟩ := gbd hf
  refine g_callVi (pc := 2) (rest := []) hC hU hH hS hl.1 gk1_0 rfl (by decide) (mX11_isTribe  hq0_1) ky_X11_isTribe km_X11_431 ⟨Nat.le_of_ble_eq_true rfl, Nat.le_of_ble_eq_true rfl⟩ ⟨Nat.zero_le _, Nat.zero_le _⟩ rfl (Nat.le_of_ble_eq_true rfl) dX11_worth_2 rfl (fun H locs hH hS => ?_)
  refine lv_if_eq (tgt := 25) (pc := 5) hx hb dX11_worth_5 (by decide) (fun hc => ?_) (fun hc => ?_)
  · have hf := gif_p hc hf
    refine lv_iconst (v := (-1)) (pc := 25) hx hb dX11_worth_25 (by decide) ?_
    exact g_iret (pc := 26) hC hret hlk hH hS hf dX11_worth_26
  · have hf := gif_n hc hf
    refine lv_aload_n (pc := 8) hx hb dX11_worth_8 rfl (lv_at hl 0 rfl) ?_
    refine lv_iload_n (pc := 9) hx hb dX11_worth_9 rfl (lv_at hl 2 rfl) ?_
    obtain ⟨q0_2, hq0_2, hf⟩ := gbd hf
    refine g_callVi (pc := 10) (rest := []) hC hU hH hS hl.1 gk1_0 rfl (by decide) (mX11_isFigure  hq0_2) ky_X11_isFigure km_X11_443 ⟨Nat.le_of_ble_eq_true rfl, Nat.le_of_ble_eq_true rfl⟩ ⟨Nat.zero_le _, Nat.zero_le _⟩ rfl (Nat.le_of_ble_eq_true rfl) dX11_worth_10 rfl (fun H locs hH hS => ?_)
    refine lv_if_eq (tgt := 25) (pc := 13) hx hb dX11_worth_13 (by decide) (fun hc => ?_) (fun hc => ?_)
    · have hf := gif_p hc hf
      refine lv_iconst (v := (-1)) (pc := 25) hx hb dX11_worth_25 (by decide) ?_
      exact g_iret (pc := 26) hC hret hlk hH hS hf dX11_worth_26
    · have hf := gif_n hc hf
      refine lv_aload_n (pc := 16) hx hb dX11_worth_16 rfl (lv_at hl 0 rfl) ?_
      refine lv_iload_n (pc := 17) hx hb dX11_worth_17 rfl (lv_at hl 1 rfl) ?_
      refine lv_iload_n (pc := 18) hx hb dX11_worth_18 rfl (lv_at hl 2 rfl) ?_
      obtain ⟨q0_3, hq0_3, hf⟩ := gbd hf
      refine g_callVi (pc := 19) (rest := []) hC hU hH hS hl.1 gk1_0 rfl (by decide) (mX11_worthOf  hq0_3) ky_X11_worthOf km_X11_446 ⟨Nat.le_of_ble_eq_true rfl, Nat.le_of_ble_eq_true rfl⟩ ⟨Nat.zero_le _, Nat.zero_le _⟩ rfl (Nat.le_of_ble_eq_true rfl) dX11_worth_19 rfl (fun H locs hH hS => ?_)
      refine lv_goto (tgt := 26) (pc := 22) hx hb dX11_worth_22 (by decide) ?_
      exact g_iret (pc := 26) hC hret hlk hH hS hf dX11_worth_26
set_option maxRecDepth 100000 in
set_option maxHeartbeats 4000000 in
theorem mX11_worth {l : Launch} {D : va_G} {cA : Nat → ClassId} {ad : Nat → Nat} {a1 : Int32} {a2 : Int32}  {r : Int32} {st st' : gS} (hf : fX11_worth a1 a2 st = some (r, st')) : gM l yX11_worth cX11_worth 3 (some .int) 3 1 D cA ad st [.ref (ad 0), .int a1, .int a2] (some (.int r)) st' := by
  refine g_met (by decide) (Nat.le_of_ble_eq_true rfl) ?_
  intro p e s m args below meth c ls hC hret hlk hU hH hl
  exact bX11_worth_0 hC hret hlk hU hf hH va_S.rf hl
def fX11_done_228 (a0 : Int32) (a1 : Int32) (a2 : Int32)  (s0 : Int32) (st : gS) : Option (Int32 × gS) :=
  (fX11_truth s0 st).bind fun q228_1 => (some (q228_1.1, q228_1.2))
set_option maxRecDepth 100000 in
set_option maxHeartbeats 4000000 in
theorem bX11_done_228 {a0 : Int32} {a1 : Int32} {a2 : Int32} (hC : CallFix p m c cX11_done 3 s args lw_good RX11) (hret : meth.sig.returnType = (some .int)) (hlk : meth.locks = false) (hU : gU 1 D cA ad s)  {r : Int32} {st' : gS}  {s0 : Int32} {st : gS} {H : Heap} {locs : List Loc} {ls : Array Slot} (hf : fX11_done_228 a0 a1 a2 s0 st = some (r, st')) (hH : gP0 1 D cA ad st H) (hS : va_S (gA 1 ad) s.heap H locs) (hl : lv_has ls 3 []) : W p l e (gRm 2) s m args below meth c H locs 0 0 (MQ below (gQc 1 D cA ad st' (some (.int r))) args s 0 0 (gA 1 ad)) (F0 m 228 ls [.int s0]) := by
  obtain ⟨hx, hb, hml, hown, hts⟩ := id hC
  unfold fX11_done_228 at hf
  obtain ⟨q228_1, hq228_1, hf⟩ := gbd hf
  refine g_callSi (pc := 228) (rest := []) hC hU hH hS hl.1 (mX11_truth  hq228_1) ky_X11_truth km_X11_325 ⟨Nat.le_of_ble_eq_true rfl, Nat.le_of_ble_eq_true rfl⟩ ⟨Nat.zero_le _, Nat.zero_le _⟩ rfl (Nat.le_of_ble_eq_true rfl) dX11_done_228 rfl (fun H locs hH hS => ?_)
  exact g_iret (pc := 231) hC hret hlk hH hS hf dX11_done_231
def fX11_done_223 (a0 : Int32) (a1 : Int32) (a2 : Int32)   (st : gS) : Option (Int32 × gS) :=
  fX11_done_228 a0 a1 a2 1 st
set_option maxRecDepth 100000 in
set_option maxHeartbeats 4000000 in
theorem bX11_done_223 {a0 : Int32} {a1 : Int32} {a2 : Int32} (hC : CallFix p m c cX11_done 3 s args lw_good RX11) (hret : meth.sig.returnType = (some .int)) (hlk : meth.locks = false) (hU : gU 1 D cA ad s)  {r : Int32} {st' : gS}   {st : gS} {H : Heap} {locs : List Loc} {ls : Array Slot} (hf : fX11_done_223 a0 a1 a2 st = some (r, st')) (hH : gP0 1 D cA ad st H) (hS : va_S (gA 1 ad) s.heap H locs) (hl : lv_has ls 3 []) : W p l e (gRm 2) s m args below meth c H locs 0 0 (MQ below (gQc 1 D cA ad st' (some (.int r))) args s 0 0 (gA 1 ad)) (F0 m 223 ls []) := by
  obtain ⟨hx, hb, hml, hown, hts⟩ := id hC
  unfold fX11_done_223 at hf
  refine lv_iconst (v := 1) (pc := 223) hx hb dX11_done_223 (by decide) ?_
  refine lv_goto (tgt := 228) (pc := 224) hx hb dX11_done_224 (by decide) ?_
  exact bX11_done_228 hC hret hlk hU hf hH hS (lv_sub hl [] rfl)
def fX11_done_215 (a0 : Int32) (a1 : Int32) (a2 : Int32)   (st : gS) : Option (Int32 × gS) :=
  if a1 = 0 then (if a2 = 0 then (fX11_done_228 a0 a1 a2 0 st) else (fX11_done_223 a0 a1 a2 st)) else (fX11_done_223 a0 a1 a2 st)
set_option maxRecDepth 100000 in
set_option maxHeartbeats 4000000 in
theorem bX11_done_215 {a0 : Int32} {a1 : Int32} {a2 : Int32} (hC : CallFix p m c cX11_done 3 s args lw_good RX11) (hret : meth.sig.returnType = (some .int)) (hlk : meth.locks = false) (hU : gU 1 D cA ad s)  {r : Int32} {st' : gS}   {st : gS} {H : Heap} {locs : List Loc} {ls : Array Slot} (hf : fX11_done_215 a0 a1 a2 st = some (r, st')) (hH : gP0 1 D cA ad st H) (hS : va_S (gA 1 ad) s.heap H locs) (hl : lv_has ls 3 [(1, .int a1), (2, .int a2)]) : W p l e (gRm 2) s m args below meth c H locs 0 0 (MQ below (gQc 1 D cA ad st' (some (.int r))) args s 0 0 (gA 1 ad)) (F0 m 215 ls []) := by
  obtain ⟨hx, hb, hml, hown, hts⟩ := id hC
  unfold fX11_done_215 at hf
  refine lv_iload_n (pc := 215) hx hb dX11_done_215 rfl (lv_at hl 0 rfl) ?_
  refine lv_if_ne (tgt := 223) (pc := 216) hx hb dX11_done_216 (by decide) (fun hc => ?_) (fun hc => ?_)
  · have hf := gif_n hc hf
    exact bX11_done_223 hC hret hlk hU hf hH hS (lv_sub hl [] rfl)
  · have hf := gif_p hc hf
    refine lv_iload_n (pc := 219) hx hb dX11_done_219 rfl (lv_at hl 1 rfl) ?_
    refine lv_if_eq (tgt := 227) (pc := 220) hx hb dX11_done_220 (by decide) (fun hc => ?_) (fun hc => ?_)
    · have hf := gif_p hc hf
      refine lv_iconst (v := 0) (pc := 227) hx hb dX11_done_227 (by decide) ?_
      exact bX11_done_228 hC hret hlk hU hf hH hS (lv_sub hl [] rfl)
    · have hf := gif_n hc hf
      exact bX11_done_223 hC hret hlk hU hf hH hS (lv_sub hl [] rfl)
def fX11_done_211 (a0 : Int32) (a1 : Int32) (a2 : Int32)  (s0 : Int32) (st : gS) : Option (Int32 × gS) :=
  (fX11_truth s0 st).bind fun q211_1 => (some (q211_1.1, q211_1.2))
set_option maxRecDepth 100000 in
set_option maxHeartbeats 4000000 in
theorem bX11_done_211 {a0 : Int32} {a1 : Int32} {a2 : Int32} (hC : CallFix p m c cX11_done 3 s args lw_good RX11) (hret : meth.sig.returnType = (some .int)) (hlk : meth.locks = false) (hU : gU 1 D cA ad s)  {r : Int32} {st' : gS}  {s0 : Int32} {st : gS} {H : Heap} {locs : List Loc} {ls : Array Slot} (hf : fX11_done_211 a0 a1 a2 s0 st = some (r, st')) (hH : gP0 1 D cA ad st H) (hS : va_S (gA 1 ad) s.heap H locs) (hl : lv_has ls 3 []) : W p l e (gRm 2) s m args below meth c H locs 0 0 (MQ below (gQc 1 D cA ad st' (some (.int r))) args s 0 0 (gA 1 ad)) (F0 m 211 ls [.int s0]) := by
  obtain ⟨hx, hb, hml, hown, hts⟩ := id hC
  unfold fX11_done_211 at hf
  obtain ⟨q211_1, hq211_1, hf⟩ := gbd hf
  refine g_callSi (pc := 211) (rest := []) hC hU hH hS hl.1 (mX11_truth  hq211_1) ky_X11_truth km_X11_325 ⟨Nat.le_of_ble_eq_true rfl, Nat.le_of_ble_eq_true rfl⟩ ⟨Nat.zero_le _, Nat.zero_le _⟩ rfl (Nat.le_of_ble_eq_true rfl) dX11_done_211 rfl (fun H locs hH hS => ?_)
  exact g_iret (pc := 214) hC hret hlk hH hS hf dX11_done_214
def fX11_done_210 (a0 : Int32) (a1 : Int32) (a2 : Int32)   (st : gS) : Option (Int32 × gS) :=
  fX11_done_211 a0 a1 a2 0 st
set_option maxRecDepth 100000 in
set_option maxHeartbeats 4000000 in
theorem bX11_done_210 {a0 : Int32} {a1 : Int32} {a2 : Int32} (hC : CallFix p m c cX11_done 3 s args lw_good RX11) (hret : meth.sig.returnType = (some .int)) (hlk : meth.locks = false) (hU : gU 1 D cA ad s)  {r : Int32} {st' : gS}   {st : gS} {H : Heap} {locs : List Loc} {ls : Array Slot} (hf : fX11_done_210 a0 a1 a2 st = some (r, st')) (hH : gP0 1 D cA ad st H) (hS : va_S (gA 1 ad) s.heap H locs) (hl : lv_has ls 3 []) : W p l e (gRm 2) s m args below meth c H locs 0 0 (MQ below (gQc 1 D cA ad st' (some (.int r))) args s 0 0 (gA 1 ad)) (F0 m 210 ls []) := by
  obtain ⟨hx, hb, hml, hown, hts⟩ := id hC
  unfold fX11_done_210 at hf
  refine lv_iconst (v := 0) (pc := 210) hx hb dX11_done_210 (by decide) ?_
  exact bX11_done_211 hC hret hlk hU hf hH hS (lv_sub hl [] rfl)
def fX11_done_194 (a0 : Int32) (a1 : Int32) (a2 : Int32)  (s0 : Int32) (st : gS) : Option (Int32 × gS) :=
  (fX11_truth s0 st).bind fun q194_1 => (some (q194_1.1, q194_1.2))
set_option maxRecDepth 100000 in
set_option maxHeartbeats 4000000 in
theorem bX11_done_194 {a0 : Int32} {a1 : Int32} {a2 : Int32} (hC : CallFix p m c cX11_done 3 s args lw_good RX11) (hret : meth.sig.returnType = (some .int)) (hlk : meth.locks = false) (hU : gU 1 D cA ad s)  {r : Int32} {st' : gS}  {s0 : Int32} {st : gS} {H : Heap} {locs : List Loc} {ls : Array Slot} (hf : fX11_done_194 a0 a1 a2 s0 st = some (r, st')) (hH : gP0 1 D cA ad st H) (hS : va_S (gA 1 ad) s.heap H locs) (hl : lv_has ls 3 []) : W p l e (gRm 2) s m args below meth c H locs 0 0 (MQ below (gQc 1 D cA ad st' (some (.int r))) args s 0 0 (gA 1 ad)) (F0 m 194 ls [.int s0]) := by
  obtain ⟨hx, hb, hml, hown, hts⟩ := id hC
  unfold fX11_done_194 at hf
  obtain ⟨q194_1, hq194_1, hf⟩ := gbd hf
  refine g_callSi (pc := 194) (rest := []) hC hU hH hS hl.1 (mX11_truth  hq194_1) ky_X11_truth km_X11_325 ⟨Nat.le_of_ble_eq_true rfl, Nat.le_of_ble_eq_true rfl⟩ ⟨Nat.zero_le _, Nat.zero_le _⟩ rfl (Nat.le_of_ble_eq_true rfl) dX11_done_194 rfl (fun H locs hH hS => ?_)
  exact g_iret (pc := 197) hC hret hlk hH hS hf dX11_done_197
def fX11_done_180 (a0 : Int32) (a1 : Int32) (a2 : Int32)  (s0 : Int32) (st : gS) : Option (Int32 × gS) :=
  (fX11_truth s0 st).bind fun q180_1 => (some (q180_1.1, q180_1.2))
set_option maxRecDepth 100000 in
set_option maxHeartbeats 4000000 in
theorem bX11_done_180 {a0 : Int32} {a1 : Int32} {a2 : Int32} (hC : CallFix p m c cX11_done 3 s args lw_good RX11) (hret : meth.sig.returnType = (some .int)) (hlk : meth.locks = false) (hU : gU 1 D cA ad s)  {r : Int32} {st' : gS}  {s0 : Int32} {st : gS} {H : Heap} {locs : List Loc} {ls : Array Slot} (hf : fX11_done_180 a0 a1 a2 s0 st = some (r, st')) (hH : gP0 1 D cA ad st H) (hS : va_S (gA 1 ad) s.heap H locs) (hl : lv_has ls 3 []) : W p l e (gRm 2) s m args below meth c H locs 0 0 (MQ below (gQc 1 D cA ad st' (some (.int r))) args s 0 0 (gA 1 ad)) (F0 m 180 ls [.int s0]) := by
  obtain ⟨hx, hb, hml, hown, hts⟩ := id hC
  unfold fX11_done_180 at hf
  obtain ⟨q180_1, hq180_1, hf⟩ := gbd hf
  refine g_callSi (pc := 180) (rest := []) hC hU hH hS hl.1 (mX11_truth  hq180_1) ky_X11_truth km_X11_325 ⟨Nat.le_of_ble_eq_true rfl, Nat.le_of_ble_eq_true rfl⟩ ⟨Nat.zero_le _, Nat.zero_le _⟩ rfl (Nat.le_of_ble_eq_true rfl) dX11_done_180 rfl (fun H locs hH hS => ?_)
  exact g_iret (pc := 183) hC hret hlk hH hS hf dX11_done_183
def fX11_done_166 (a0 : Int32) (a1 : Int32) (a2 : Int32)  (s0 : Int32) (st : gS) : Option (Int32 × gS) :=
  (fX11_truth s0 st).bind fun q166_1 => (some (q166_1.1, q166_1.2))
set_option maxRecDepth 100000 in
set_option maxHeartbeats 4000000 in
theorem bX11_done_166 {a0 : Int32} {a1 : Int32} {a2 : Int32} (hC : CallFix p m c cX11_done 3 s args lw_good RX11) (hret : meth.sig.returnType = (some .int)) (hlk : meth.locks = false) (hU : gU 1 D cA ad s)  {r : Int32} {st' : gS}  {s0 : Int32} {st : gS} {H : Heap} {locs : List Loc} {ls : Array Slot} (hf : fX11_done_166 a0 a1 a2 s0 st = some (r, st')) (hH : gP0 1 D cA ad st H) (hS : va_S (gA 1 ad) s.heap H locs) (hl : lv_has ls 3 []) : W p l e (gRm 2) s m args below meth c H locs 0 0 (MQ below (gQc 1 D cA ad st' (some (.int r))) args s 0 0 (gA 1 ad)) (F0 m 166 ls [.int s0]) := by
  obtain ⟨hx, hb, hml, hown, hts⟩ := id hC
  unfold fX11_done_166 at hf
  obtain ⟨q166_1, hq166_1, hf⟩ := gbd hf
  refine g_callSi (pc := 166) (rest := []) hC hU hH hS hl.1 (mX11_truth  hq166_1) ky_X11_truth km_X11_325 ⟨Nat.le_of_ble_eq_true rfl, Nat.le_of_ble_eq_true rfl⟩ ⟨Nat.zero_le _, Nat.zero_le _⟩ rfl (Nat.le_of_ble_eq_true rfl) dX11_done_166 rfl (fun H locs hH hS => ?_)
  exact g_iret (pc := 169) hC hret hlk hH hS hf dX11_done_169
def fX11_done (a0 : Int32) (a1 : Int32) (a2 : Int32)   (st : gS) : Option (Int32 × gS) :=
  if a0 = 37 then (if a2 = 0 then (some (0, st)) else (gc (¬ a2 = 0) (some (a1 - a1 / a2 * a2, st)))) else if a0 = 38 then (if a1 = 0 then (fX11_done_210 a0 a1 a2 st) else (if a2 = 0 then (fX11_done_210 a0 a1 a2 st) else (fX11_done_211 a0 a1 a2 1 st))) else if a0 = 42 then (some (a1 * a2, st)) else if a0 = 43 then (some (a1 + a2, st)) else if a0 = 45 then (some (a1 - a2, st)) else if a0 = 47 then (if a2 = 0 then (some (0, st)) else (gc (¬ a2 = 0) (some (a1 / a2, st)))) else if a0 = 60 then (if a2 ≤ a1 then (fX11_done_166 a0 a1 a2 0 st) else (fX11_done_166 a0 a1 a2 1 st)) else if a0 = 61 then (if a1 = a2 then (fX11_done_194 a0 a1 a2 1 st) else (fX11_done_194 a0 a1 a2 0 st)) else if a0 = 62 then (if a1 ≤ a2 then (fX11_done_180 a0 a1 a2 0 st) else (fX11_done_180 a0 a1 a2 1 st)) else (fX11_done_215 a0 a1 a2 st)
set_option maxRecDepth 100000 in
set_option maxHeartbeats 4000000 in
theorem bX11_done_0 {a0 : Int32} {a1 : Int32} {a2 : Int32} (hC : CallFix p m c cX11_done 3 s args lw_good RX11) (hret : meth.sig.returnType = (some .int)) (hlk : meth.locks = false) (hU : gU 1 D cA ad s)  {r : Int32} {st' : gS}   {st : gS} {H : Heap} {locs : List Loc} {ls : Array Slot} (hf : fX11_done a0 a1 a2 st = some (r, st')) (hH : gP0 1 D cA ad st H) (hS : va_S (gA 1 ad) s.heap H locs) (hl : lv_has ls 3 [(0, .int a0), (1, .int a1), (2, .int a2)]) : W p l e (gRm 2) s m args below meth c H locs 0 0 (MQ below (gQc 1 D cA ad st' (some (.int r))) args s 0 0 (gA 1 ad)) (F0 m 0 ls []) := by
  obtain ⟨hx, hb, hml, hown, hts⟩ := id hC
  unfold fX11_done at hf
  refine lv_iload_n (pc := 0) hx hb dX11_done_0 rfl (lv_at hl 0 rfl) ?_
  by_cases hw1_37 : a0 = 37
  · have hf := gif_p hw1_37 hf
    refine g_tswI (tgt := 144) (off := 143) (pc := 1) hx hb hw1_37 dX11_done_1 (by decide) (by decide) (by decide) (by decide) ?_
    refine lv_iload_n (pc := 144) hx hb dX11_done_144 rfl (lv_at hl 2 rfl) ?_
    refine lv_if_ne (tgt := 152) (pc := 145) hx hb dX11_done_145 (by decide) (fun hc => ?_) (fun hc => ?_)
    · have hf := gif_n hc hf
      refine lv_iload_n (pc := 152) hx hb dX11_done_152 rfl (lv_at hl 1 rfl) ?_
      refine lv_iload_n (pc := 153) hx hb dX11_done_153 rfl (lv_at hl 2 rfl) ?_
      obtain ⟨h0_1, hf⟩ := gc_s hf
      refine lv_irem (pc := 154) hx hb dX11_done_154 h0_1 ?_
      exact g_iret (pc := 155) hC hret hlk hH hS hf dX11_done_155
    · have hf := gif_p hc hf
      refine lv_iconst (v := 0) (pc := 148) hx hb dX11_done_148 (by decide) ?_
      refine lv_goto (tgt := 155) (pc := 149) hx hb dX11_done_149 (by decide) ?_
      exact g_iret (pc := 155) hC hret hlk hH hS hf dX11_done_155
  · have hf := gif_n hw1_37 hf
    by_cases hw1_38 : a0 = 38
    · have hf := gif_p hw1_38 hf
      refine g_tswI (tgt := 198) (off := 197) (pc := 1) hx hb hw1_38 dX11_done_1 (by decide) (by decide) (by decide) (by decide) ?_
      refine lv_iload_n (pc := 198) hx hb dX11_done_198 rfl (lv_at hl 1 rfl) ?_
      refine lv_if_eq (tgt := 210) (pc := 199) hx hb dX11_done_199 (by decide) (fun hc => ?_) (fun hc => ?_)
      · have hf := gif_p hc hf
        exact bX11_done_210 hC hret hlk hU hf hH hS (lv_sub hl [] rfl)
      · have hf := gif_n hc hf
        refine lv_iload_n (pc := 202) hx hb dX11_done_202 rfl (lv_at hl 2 rfl) ?_
        refine lv_if_eq (tgt := 210) (pc := 203) hx hb dX11_done_203 (by decide) (fun hc => ?_) (fun hc => ?_)
        · have hf := gif_p hc hf
          exact bX11_done_210 hC hret hlk hU hf hH hS (lv_sub hl [] rfl)
        · have hf := gif_n hc hf
          refine lv_iconst (v := 1) (pc := 206) hx hb dX11_done_206 (by decide) ?_
          refine lv_goto (tgt := 211) (pc := 207) hx hb dX11_done_207 (by decide) ?_
          exact bX11_done_211 hC hret hlk hU hf hH hS (lv_sub hl [] rfl)
    · have hf := gif_n hw1_38 hf
      by_cases hw1_42 : a0 = 42
      · have hf := gif_p hw1_42 hf
        refine g_tswI (tgt := 128) (off := 127) (pc := 1) hx hb hw1_42 dX11_done_1 (by decide) (by decide) (by decide) (by decide) ?_
        refine lv_iload_n (pc := 128) hx hb dX11_done_128 rfl (lv_at hl 1 rfl) ?_
        refine lv_iload_n (pc := 129) hx hb dX11_done_129 rfl (lv_at hl 2 rfl) ?_
        refine lv_imul (pc := 130) hx hb dX11_done_130 ?_
        exact g_iret (pc := 131) hC hret hlk hH hS hf dX11_done_131
      · have hf := gif_n hw1_42 hf
        by_cases hw1_43 : a0 = 43
        · have hf := gif_p hw1_43 hf
          refine g_tswI (tgt := 120) (off := 119) (pc := 1) hx hb hw1_43 dX11_done_1 (by decide) (by decide) (by decide) (by decide) ?_
          refine lv_iload_n (pc := 120) hx hb dX11_done_120 rfl (lv_at hl 1 rfl) ?_
          refine lv_iload_n (pc := 121) hx hb dX11_done_121 rfl (lv_at hl 2 rfl) ?_
          refine lv_iadd (pc := 122) hx hb dX11_done_122 ?_
          exact g_iret (pc := 123) hC hret hlk hH hS hf dX11_done_123
        · have hf := gif_n hw1_43 hf
          by_cases hw1_45 : a0 = 45
          · have hf := gif_p hw1_45 hf
            refine g_tswI (tgt := 124) (off := 123) (pc := 1) hx hb hw1_45 dX11_done_1 (by decide) (by decide) (by decide) (by decide) ?_
            refine lv_iload_n (pc := 124) hx hb dX11_done_124 rfl (lv_at hl 1 rfl) ?_
            refine lv_iload_n (pc := 125) hx hb dX11_done_125 rfl (lv_at hl 2 rfl) ?_
            refine lv_isub (pc := 126) hx hb dX11_done_126 ?_
            exact g_iret (pc := 127) hC hret hlk hH hS hf dX11_done_127
          · have hf := gif_n hw1_45 hf
            by_cases hw1_47 : a0 = 47
            · have hf := gif_p hw1_47 hf
              refine g_tswI (tgt := 132) (off := 131) (pc := 1) hx hb hw1_47 dX11_done_1 (by decide) (by decide) (by decide) (by decide) ?_
              refine lv_iload_n (pc := 132) hx hb dX11_done_132 rfl (lv_at hl 2 rfl) ?_
              refine lv_if_ne (tgt := 140) (pc := 133) hx hb dX11_done_133 (by decide) (fun hc => ?_) (fun hc => ?_)
              · have hf := gif_n hc hf
                refine lv_iload_n (pc := 140) hx hb dX11_done_140 rfl (lv_at hl 1 rfl) ?_
                refine lv_iload_n (pc := 141) hx hb dX11_done_141 rfl (lv_at hl 2 rfl) ?_
                obtain ⟨h0_2, hf⟩ := gc_s hf
                refine lv_idiv (pc := 142) hx hb dX11_done_142 h0_2 ?_
                exact g_iret (pc := 143) hC hret hlk hH hS hf dX11_done_143
              · have hf := gif_p hc hf
                refine lv_iconst (v := 0) (pc := 136) hx hb dX11_done_136 (by decide) ?_
                refine lv_goto (tgt := 143) (pc := 137) hx hb dX11_done_137 (by decide) ?_
                exact g_iret (pc := 143) hC hret hlk hH hS hf dX11_done_143
            · have hf := gif_n hw1_47 hf
              by_cases hw1_60 : a0 = 60
              · have hf := gif_p hw1_60 hf
                refine g_tswI (tgt := 156) (off := 155) (pc := 1) hx hb hw1_60 dX11_done_1 (by decide) (by decide) (by decide) (by decide) ?_
                refine lv_iload_n (pc := 156) hx hb dX11_done_156 rfl (lv_at hl 1 rfl) ?_
                refine lv_iload_n (pc := 157) hx hb dX11_done_157 rfl (lv_at hl 2 rfl) ?_
                refine lv_icmp_ge (tgt := 165) (pc := 158) hx hb dX11_done_158 (by decide) (fun hc => ?_) (fun hc => ?_)
                · have hf := gif_p hc hf
                  refine lv_iconst (v := 0) (pc := 165) hx hb dX11_done_165 (by decide) ?_
                  exact bX11_done_166 hC hret hlk hU hf hH hS (lv_sub hl [] rfl)
                · have hf := gif_n hc hf
                  refine lv_iconst (v := 1) (pc := 161) hx hb dX11_done_161 (by decide) ?_
                  refine lv_goto (tgt := 166) (pc := 162) hx hb dX11_done_162 (by decide) ?_
                  exact bX11_done_166 hC hret hlk hU hf hH hS (lv_sub hl [] rfl)
              · have hf := gif_n hw1_60 hf
                by_cases hw1_61 : a0 = 61
                · have hf := gif_p hw1_61 hf
                  refine g_tswI (tgt := 184) (off := 183) (pc := 1) hx hb hw1_61 dX11_done_1 (by decide) (by decide) (by decide) (by decide) ?_
                  refine lv_iload_n (pc := 184) hx hb dX11_done_184 rfl (lv_at hl 1 rfl) ?_
                  refine lv_iload_n (pc := 185) hx hb dX11_done_185 rfl (lv_at hl 2 rfl) ?_
                  refine lv_icmp_ne (tgt := 193) (pc := 186) hx hb dX11_done_186 (by decide) (fun hc => ?_) (fun hc => ?_)
                  · have hf := gif_n hc hf
                    refine lv_iconst (v := 0) (pc := 193) hx hb dX11_done_193 (by decide) ?_
                    exact bX11_done_194 hC hret hlk hU hf hH hS (lv_sub hl [] rfl)
                  · have hf := gif_p hc hf
                    refine lv_iconst (v := 1) (pc := 189) hx hb dX11_done_189 (by decide) ?_
                    refine lv_goto (tgt := 194) (pc := 190) hx hb dX11_done_190 (by decide) ?_
                    exact bX11_done_194 hC hret hlk hU hf hH hS (lv_sub hl [] rfl)
                · have hf := gif_n hw1_61 hf
                  by_cases hw1_62 : a0 = 62
                  · have hf := gif_p hw1_62 hf
                    refine g_tswI (tgt := 170) (off := 169) (pc := 1) hx hb hw1_62 dX11_done_1 (by decide) (by decide) (by decide) (by decide) ?_
                    refine lv_iload_n (pc := 170) hx hb dX11_done_170 rfl (lv_at hl 1 rfl) ?_
                    refine lv_iload_n (pc := 171) hx hb dX11_done_171 rfl (lv_at hl 2 rfl) ?_
                    refine lv_icmp_le (tgt := 179) (pc := 172) hx hb dX11_done_172 (by decide) (fun hc => ?_) (fun hc => ?_)
                    · have hf := gif_p hc hf
                      refine lv_iconst (v := 0) (pc := 179) hx hb dX11_done_179 (by decide) ?_
                      exact bX11_done_180 hC hret hlk hU hf hH hS (lv_sub hl [] rfl)
                    · have hf := gif_n hc hf
                      refine lv_iconst (v := 1) (pc := 175) hx hb dX11_done_175 (by decide) ?_
                      refine lv_goto (tgt := 180) (pc := 176) hx hb dX11_done_176 (by decide) ?_
                      exact bX11_done_180 hC hret hlk hU hf hH hS (lv_sub hl [] rfl)
                  · have hf := gif_n hw1_62 hf
                    refine g_tswD (tgt := 215) (n := 26) (pc := 1) hx hb dX11_done_1 (by intro j hj hne; match j, hj with | 0, _ => exact absurd hne hw1_37 | 1, _ => exact absurd hne hw1_38 | 2, _ => rfl | 3, _ => rfl | 4, _ => rfl | 5, _ => exact absurd hne hw1_42 | 6, _ => exact absurd hne hw1_43 | 7, _ => rfl | 8, _ => exact absurd hne hw1_45 | 9, _ => rfl | 10, _ => exact absurd hne hw1_47 | 11, _ => rfl | 12, _ => rfl | 13, _ => rfl | 14, _ => rfl | 15, _ => rfl | 16, _ => rfl | 17, _ => rfl | 18, _ => rfl | 19, _ => rfl | 20, _ => rfl | 21, _ => rfl | 22, _ => rfl | 23, _ => exact absurd hne hw1_60 | 24, _ => exact absurd hne hw1_61 | 25, _ => exact absurd hne hw1_62 | n + 26, h => exact absurd h (by omega)) rfl (by decide) ?_
                    exact bX11_done_215 hC hret hlk hU hf hH hS (lv_sub hl [1, 2] rfl)
set_option maxRecDepth 100000 in
set_option maxHeartbeats 4000000 in
theorem mX11_done {l : Launch} {D : va_G} {cA : Nat → ClassId} {ad : Nat → Nat} {a0 : Int32} {a1 : Int32} {a2 : Int32}  {r : Int32} {st st' : gS} (hf : fX11_done a0 a1 a2 st = some (r, st')) : gM l yX11_done cX11_done 3 (some .int) 2 1 D cA ad st [.int a0, .int a1, .int a2] (some (.int r)) st' := by
  refine g_met (by decide) (Nat.le_of_ble_eq_true rfl) ?_
  intro p e s m args below meth c ls hC hret hlk hU hH hl
  exact bX11_done_0 hC hret hlk hU hf hH va_S.rf hl
def fX11_slipped_112 (a1 : Int32) (k11 : Int32 → Int32 → gS → Option (Int32 × gS)) (l2 : Int32) (l3 : Int32) (s0 : Int32) (s1 : Int32) (st : gS) : Option (Int32 × gS) :=
  (fX11_truth s0 st).bind fun q112_1 => (gc (gI s1 64) (k11 l2 (l3 + 1) (wi q112_1.2 8 s1.toNatClampNeg q112_1.1)))
set_option maxRecDepth 100000 in
set_option maxHeartbeats 4000000 in
theorem bX11_slipped_112 {a1 : Int32} (hC : CallFix p m c cX11_slipped 4 s args lw_good RX11) (hret : meth.sig.returnType = (some .int)) (hlk : meth.locks = false) (hU : gU 1 D cA ad s)  {r : Int32} {st' : gS} {k11 : Int32 → Int32 → gS → Option (Int32 × gS)} (hk11 : ∀ {l2 : Int32} {l3 : Int32} {st : gS} {H : Heap} {locs : List Loc} {ls : Array Slot}, k11 l2 l3 st = some (r, st') → gP0 1 D cA ad st H → va_S (gA 1 ad) s.heap H locs → lv_has ls 4 [(0, .ref (ad 0)), (2, .int l2), (3, .int l3)] → W p l e (gRm 3) s m args below meth c H locs 0 0 (MQ below (gQc 1 D cA ad st' (some (.int r))) args s 0 0 (gA 1 ad)) (F0 m 11 ls [])) {l2 : Int32} {l3 : Int32} {s0 : Int32} {s1 : Int32} {st : gS} {H : Heap} {locs : List Loc} {ls : Array Slot} (hf : fX11_slipped_112 a1 k11 l2 l3 s0 s1 st = some (r, st')) (hH : gP0 1 D cA ad st H) (hS : va_S (gA 1 ad) s.heap H locs) (hl : lv_has ls 4 [(0, .ref (ad 0)), (2, .int l2), (3, .int l3)]) : W p l e (gRm 3) s m args below meth c H locs 0 0 (MQ below (gQc 1 D cA ad st' (some (.int r))) args s 0 0 (gA 1 ad)) (F0 m 112 ls [.int s0, .int s1, .ref (ad 8)]) := by
  obtain ⟨hx, hb, hml, hown, hts⟩ := id hC
  unfold fX11_slipped_112 at hf
  obtain ⟨q112_1, hq112_1, hf⟩ := gbd hf
  refine g_callSi (pc := 112) (rest := [.int s1, .ref (ad 8)]) hC hU hH hS hl.1 (mX11_truth  hq112_1) ky_X11_truth km_X11_325 ⟨Nat.le_of_ble_eq_true rfl, Nat.le_of_ble_eq_true rfl⟩ ⟨Nat.zero_le _, Nat.zero_le _⟩ rfl (Nat.le_of_ble_eq_true rfl) dX11_slipped_112 rfl (fun H locs hH hS => ?_)
  obtain ⟨h112_1, hf⟩ := gc_s hf
  refine g_iast (pc := 115) hC hU hH hS gk1_8 gn1_8 h112_1 dX11_slipped_115 (fun H locs hH hS => ?_)
  refine lv_goto (tgt := 153) (pc := 116) hx hb dX11_slipped_116 (by decide) ?_
  refine lv_iinc (v := l3 + 1) (lv' := [(3, .int (l3 + 1)), (0, .ref (ad 0)), (2, .int l2)]) (k := 2) (pc := 153) hx hb dX11_slipped_153 hl rfl rfl (by decide) rfl (fun ls hl => ?_)
  refine lv_goto (tgt := 11) (pc := 156) hx hb dX11_slipped_156 (by decide) ?_
  exact hk11 hf hH hS (lv_sub hl [1, 2, 0] rfl)
def fX11_slipped_72 (a1 : Int32) (k11 : Int32 → Int32 → gS → Option (Int32 × gS)) (l2 : Int32) (l3 : Int32) (s0 : Int32) (s1 : Int32) (st : gS) : Option (Int32 × gS) :=
  gc (gI s1 64) (k11 (l2 + 1) (l3 + 1) (wi st 8 s1.toNatClampNeg s0))
set_option maxRecDepth 100000 in
set_option maxHeartbeats 4000000 in
theorem bX11_slipped_72 {a1 : Int32} (hC : CallFix p m c cX11_slipped 4 s args lw_good RX11) (hret : meth.sig.returnType = (some .int)) (hlk : meth.locks = false) (hU : gU 1 D cA ad s)  {r : Int32} {st' : gS} {k11 : Int32 → Int32 → gS → Option (Int32 × gS)} (hk11 : ∀ {l2 : Int32} {l3 : Int32} {st : gS} {H : Heap} {locs : List Loc} {ls : Array Slot}, k11 l2 l3 st = some (r, st') → gP0 1 D cA ad st H → va_S (gA 1 ad) s.heap H locs → lv_has ls 4 [(0, .ref (ad 0)), (2, .int l2), (3, .int l3)] → W p l e (gRm 3) s m args below meth c H locs 0 0 (MQ below (gQc 1 D cA ad st' (some (.int r))) args s 0 0 (gA 1 ad)) (F0 m 11 ls [])) {l2 : Int32} {l3 : Int32} {s0 : Int32} {s1 : Int32} {st : gS} {H : Heap} {locs : List Loc} {ls : Array Slot} (hf : fX11_slipped_72 a1 k11 l2 l3 s0 s1 st = some (r, st')) (hH : gP0 1 D cA ad st H) (hS : va_S (gA 1 ad) s.heap H locs) (hl : lv_has ls 4 [(0, .ref (ad 0)), (2, .int l2), (3, .int l3)]) : W p l e (gRm 3) s m args below meth c H locs 0 0 (MQ below (gQc 1 D cA ad st' (some (.int r))) args s 0 0 (gA 1 ad)) (F0 m 72 ls [.int s0, .int s1, .ref (ad 8)]) := by
  obtain ⟨hx, hb, hml, hown, hts⟩ := id hC
  unfold fX11_slipped_72 at hf
  obtain ⟨h72_1, hf⟩ := gc_s hf
  refine g_iast (pc := 72) hC hU hH hS gk1_8 gn1_8 h72_1 dX11_slipped_72 (fun H locs hH hS => ?_)
  refine lv_iinc (v := l2 + 1) (lv' := [(2, .int (l2 + 1)), (0, .ref (ad 0)), (3, .int l3)]) (k := 1) (pc := 73) hx hb dX11_slipped_73 hl rfl rfl (by decide) rfl (fun ls hl => ?_)
  refine lv_goto (tgt := 153) (pc := 76) hx hb dX11_slipped_76 (by decide) ?_
  refine lv_iinc (v := l3 + 1) (lv' := [(3, .int (l3 + 1)), (2, .int (l2 + 1)), (0, .ref (ad 0))]) (k := 2) (pc := 153) hx hb dX11_slipped_153 hl rfl rfl (by decide) rfl (fun ls hl => ?_)
  refine lv_goto (tgt := 11) (pc := 156) hx hb dX11_slipped_156 (by decide) ?_
  exact hk11 hf hH hS (lv_sub hl [2, 1, 0] rfl)
def fX11_slipped_38 (a1 : Int32) (k11 : Int32 → Int32 → gS → Option (Int32 × gS)) (l2 : Int32) (l3 : Int32) (st : gS) : Option (Int32 × gS) :=
  gc (gI l3 320) (if (st.1 5 l3.toNatClampNeg) = 0 then (gc (gI l3 320) (fX11_slipped_72 a1 k11 l2 l3 (st.1 6 l3.toNatClampNeg) l2 st)) else (gc (gI l3 320) (gc (gI (st.1 6 l3.toNatClampNeg) 5) (fX11_slipped_72 a1 k11 l2 l3 (st.1 9 (st.1 6 l3.toNatClampNeg).toNatClampNeg) l2 st))))
set_option maxRecDepth 100000 in
set_option maxHeartbeats 4000000 in
theorem bX11_slipped_38 {a1 : Int32} (hC : CallFix p m c cX11_slipped 4 s args lw_good RX11) (hret : meth.sig.returnType = (some .int)) (hlk : meth.locks = false) (hU : gU 1 D cA ad s)  {r : Int32} {st' : gS} {k11 : Int32 → Int32 → gS → Option (Int32 × gS)} (hk11 : ∀ {l2 : Int32} {l3 : Int32} {st : gS} {H : Heap} {locs : List Loc} {ls : Array Slot}, k11 l2 l3 st = some (r, st') → gP0 1 D cA ad st H → va_S (gA 1 ad) s.heap H locs → lv_has ls 4 [(0, .ref (ad 0)), (2, .int l2), (3, .int l3)] → W p l e (gRm 3) s m args below meth c H locs 0 0 (MQ below (gQc 1 D cA ad st' (some (.int r))) args s 0 0 (gA 1 ad)) (F0 m 11 ls [])) {l2 : Int32} {l3 : Int32} {st : gS} {H : Heap} {locs : List Loc} {ls : Array Slot} (hf : fX11_slipped_38 a1 k11 l2 l3 st = some (r, st')) (hH : gP0 1 D cA ad st H) (hS : va_S (gA 1 ad) s.heap H locs) (hl : lv_has ls 4 [(0, .ref (ad 0)), (2, .int l2), (3, .int l3)]) : W p l e (gRm 3) s m args below meth c H locs 0 0 (MQ below (gQc 1 D cA ad st' (some (.int r))) args s 0 0 (gA 1 ad)) (F0 m 38 ls []) := by
  obtain ⟨hx, hb, hml, hown, hts⟩ := id hC
  unfold fX11_slipped_38 at hf
  refine lv_aload_n (pc := 38) hx hb dX11_slipped_38 rfl (lv_at hl 0 rfl) ?_
  refine g_get (pc := 39) (v := .ref (ad 8)) hC hU hH gk1_0 g_cl11 16 (by decide) kf_X11_36 rfl dX11_slipped_39 ?_
  refine lv_iload_n (pc := 42) hx hb dX11_slipped_42 rfl (lv_at hl 1 rfl) ?_
  refine lv_aload_n (pc := 43) hx hb dX11_slipped_43 rfl (lv_at hl 0 rfl) ?_
  refine g_get (pc := 44) (v := .ref (ad 5)) hC hU hH gk1_0 g_cl11 13 (by decide) kf_X11_27 rfl dX11_slipped_44 ?_
  refine lv_iload_n (pc := 47) hx hb dX11_slipped_47 rfl (lv_at hl 2 rfl) ?_
  obtain ⟨h38_1, hf⟩ := gc_s hf
  refine g_iald (pc := 48) hC hU hH gk1_5 gn1_5 h38_1 dX11_slipped_48 ?_
  refine lv_if_ne (tgt := 61) (pc := 49) hx hb dX11_slipped_49 (by decide) (fun hc => ?_) (fun hc => ?_)
  · have hf := gif_n hc hf
    refine lv_aload_n (pc := 61) hx hb dX11_slipped_61 rfl (lv_at hl 0 rfl) ?_
    refine g_get (pc := 62) (v := .ref (ad 9)) hC hU hH gk1_0 g_cl11 24 (by decide) kf_X11_39 rfl dX11_slipped_62 ?_
    refine lv_aload_n (pc := 65) hx hb dX11_slipped_65 rfl (lv_at hl 0 rfl) ?_
    refine g_get (pc := 66) (v := .ref (ad 6)) hC hU hH gk1_0 g_cl11 14 (by decide) kf_X11_30 rfl dX11_slipped_66 ?_
    refine lv_iload_n (pc := 69) hx hb dX11_slipped_69 rfl (lv_at hl 2 rfl) ?_
    obtain ⟨h38_2, hf⟩ := gc_s hf
    refine g_iald (pc := 70) hC hU hH gk1_6 gn1_6 h38_2 dX11_slipped_70 ?_
    obtain ⟨h38_3, hf⟩ := gc_s hf
    refine g_iald (pc := 71) hC hU hH gk1_9 gn1_9 h38_3 dX11_slipped_71 ?_
    exact bX11_slipped_72 hC hret hlk hU hk11 hf hH hS (lv_sub hl [0, 1, 2] rfl)
  · have hf := gif_p hc hf
    refine lv_aload_n (pc := 52) hx hb dX11_slipped_52 rfl (lv_at hl 0 rfl) ?_
    refine g_get (pc := 53) (v := .ref (ad 6)) hC hU hH gk1_0 g_cl11 14 (by decide) kf_X11_30 rfl dX11_slipped_53 ?_
    refine lv_iload_n (pc := 56) hx hb dX11_slipped_56 rfl (lv_at hl 2 rfl) ?_
    obtain ⟨h38_4, hf⟩ := gc_s hf
    refine g_iald (pc := 57) hC hU hH gk1_6 gn1_6 h38_4 dX11_slipped_57 ?_
    refine lv_goto (tgt := 72) (pc := 58) hx hb dX11_slipped_58 (by decide) ?_
    exact bX11_slipped_72 hC hret hlk hU hk11 hf hH hS (lv_sub hl [0, 1, 2] rfl)
def fX11_slipped_11 (a1 : Int32) (k11 : Int32 → Int32 → gS → Option (Int32 × gS)) (l2 : Int32) (l3 : Int32) (st : gS) : Option (Int32 × gS) :=
  if (st.1 0 18) ≤ l3 then (gc (gI 0 64) (if 0 ≤ (st.1 8 (0 : Int32).toNatClampNeg) then (gc (gI 0 64) (if (st.1 8 (0 : Int32).toNatClampNeg) ≤ 100 then (gc (gI 0 64) (some (st.1 8 (0 : Int32).toNatClampNeg, st))) else (some (100, st)))) else (some (0, st)))) else (gc (gI l3 320) (if (st.1 5 l3.toNatClampNeg) = 0 then (fX11_slipped_38 a1 k11 l2 l3 st) else (gc (gI l3 320) (if (st.1 5 l3.toNatClampNeg) = 1 then (fX11_slipped_38 a1 k11 l2 l3 st) else (gc (gI l3 320) (if (st.1 5 l3.toNatClampNeg) = 2 then (gc (gI (l2 - 1) 64) (if (st.1 8 (l2 - 1).toNatClampNeg) = 0 then (fX11_slipped_112 a1 k11 l2 l3 1 (l2 - 1) st) else (fX11_slipped_112 a1 k11 l2 l3 0 (l2 - 1) st))) else (gc (gI l3 320) (gc (gI ((l2 + (-1)) - 1) 64) (gc (gI (l2 + (-1)) 64) ((fX11_done (st.1 6 l3.toNatClampNeg) (st.1 8 ((l2 + (-1)) - 1).toNatClampNeg) (st.1 8 (l2 + (-1)).toNatClampNeg) st).bind fun q11_1 => (gc (gI ((l2 + (-1)) - 1) 64) (k11 (l2 + (-1)) (l3 + 1) (wi q11_1.2 8 ((l2 + (-1)) - 1).toNatClampNeg q11_1.1)))))))))))))
set_option maxRecDepth 100000 in
set_option maxHeartbeats 4000000 in
theorem bX11_slipped_11 {a1 : Int32} (hC : CallFix p m c cX11_slipped 4 s args lw_good RX11) (hret : meth.sig.returnType = (some .int)) (hlk : meth.locks = false) (hU : gU 1 D cA ad s)  {r : Int32} {st' : gS} {k11 : Int32 → Int32 → gS → Option (Int32 × gS)} (hk11 : ∀ {l2 : Int32} {l3 : Int32} {st : gS} {H : Heap} {locs : List Loc} {ls : Array Slot}, k11 l2 l3 st = some (r, st') → gP0 1 D cA ad st H → va_S (gA 1 ad) s.heap H locs → lv_has ls 4 [(0, .ref (ad 0)), (2, .int l2), (3, .int l3)] → W p l e (gRm 3) s m args below meth c H locs 0 0 (MQ below (gQc 1 D cA ad st' (some (.int r))) args s 0 0 (gA 1 ad)) (F0 m 11 ls [])) {l2 : Int32} {l3 : Int32} {st : gS} {H : Heap} {locs : List Loc} {ls : Array Slot} (hf : fX11_slipped_11 a1 k11 l2 l3 st = some (r, st')) (hH : gP0 1 D cA ad st H) (hS : va_S (gA 1 ad) s.heap H locs) (hl : lv_has ls 4 [(0, .ref (ad 0)), (2, .int l2), (3, .int l3)]) : W p l e (gRm 3) s m args below meth c H locs 0 0 (MQ below (gQc 1 D cA ad st' (some (.int r))) args s 0 0 (gA 1 ad)) (F0 m 11 ls []) := by
  obtain ⟨hx, hb, hml, hown, hts⟩ := id hC
  unfold fX11_slipped_11 at hf
  refine lv_iload_n (pc := 11) hx hb dX11_slipped_11 rfl (lv_at hl 2 rfl) ?_
  refine lv_aload_n (pc := 12) hx hb dX11_slipped_12 rfl (lv_at hl 0 rfl) ?_
  refine g_get (pc := 13) (v := .int (st.1 0 18)) hC hU hH gk1_0 g_cl11 18 (by decide) kf_X11_329 rfl dX11_slipped_13 ?_
  refine lv_icmp_ge (tgt := 159) (pc := 16) hx hb dX11_slipped_16 (by decide) (fun hc => ?_) (fun hc => ?_)
  · have hf := gif_p hc hf
    refine lv_aload_n (pc := 159) hx hb dX11_slipped_159 rfl (lv_at hl 0 rfl) ?_
    refine g_get (pc := 160) (v := .ref (ad 8)) hC hU hH gk1_0 g_cl11 16 (by decide) kf_X11_36 rfl dX11_slipped_160 ?_
    refine lv_iconst (v := 0) (pc := 163) hx hb dX11_slipped_163 (by decide) ?_
    obtain ⟨h11_1, hf⟩ := gc_s hf
    refine g_iald (pc := 164) hC hU hH gk1_8 gn1_8 h11_1 dX11_slipped_164 ?_
    refine lv_if_ge (tgt := 172) (pc := 165) hx hb dX11_slipped_165 (by decide) (fun hc => ?_) (fun hc => ?_)
    · have hf := gif_p hc hf
      refine lv_aload_n (pc := 172) hx hb dX11_slipped_172 rfl (lv_at hl 0 rfl) ?_
      refine g_get (pc := 173) (v := .ref (ad 8)) hC hU hH gk1_0 g_cl11 16 (by decide) kf_X11_36 rfl dX11_slipped_173 ?_
      refine lv_iconst (v := 0) (pc := 176) hx hb dX11_slipped_176 (by decide) ?_
      obtain ⟨h11_2, hf⟩ := gc_s hf
      refine g_iald (pc := 177) hC hU hH gk1_8 gn1_8 h11_2 dX11_slipped_177 ?_
      refine lv_bipush (v := 100) (pc := 178) hx hb dX11_slipped_178 (by decide) ?_
      refine lv_icmp_le (tgt := 188) (pc := 180) hx hb dX11_slipped_180 (by decide) (fun hc => ?_) (fun hc => ?_)
      · have hf := gif_p hc hf
        refine lv_aload_n (pc := 188) hx hb dX11_slipped_188 rfl (lv_at hl 0 rfl) ?_
        refine g_get (pc := 189) (v := .ref (ad 8)) hC hU hH gk1_0 g_cl11 16 (by decide) kf_X11_36 rfl dX11_slipped_189 ?_
        refine lv_iconst (v := 0) (pc := 192) hx hb dX11_slipped_192 (by decide) ?_
        obtain ⟨h11_3, hf⟩ := gc_s hf
        refine g_iald (pc := 193) hC hU hH gk1_8 gn1_8 h11_3 dX11_slipped_193 ?_
        exact g_iret (pc := 194) hC hret hlk hH hS hf dX11_slipped_194
      · have hf := gif_n hc hf
        refine lv_bipush (v := 100) (pc := 183) hx hb dX11_slipped_183 (by decide) ?_
        refine lv_goto (tgt := 194) (pc := 185) hx hb dX11_slipped_185 (by decide) ?_
        exact g_iret (pc := 194) hC hret hlk hH hS hf dX11_slipped_194
    · have hf := gif_n hc hf
      refine lv_iconst (v := 0) (pc := 168) hx hb dX11_slipped_168 (by decide) ?_
      refine lv_goto (tgt := 194) (pc := 169) hx hb dX11_slipped_169 (by decide) ?_
      exact g_iret (pc := 194) hC hret hlk hH hS hf dX11_slipped_194
  · have hf := gif_n hc hf
    refine lv_aload_n (pc := 19) hx hb dX11_slipped_19 rfl (lv_at hl 0 rfl) ?_
    refine g_get (pc := 20) (v := .ref (ad 5)) hC hU hH gk1_0 g_cl11 13 (by decide) kf_X11_27 rfl dX11_slipped_20 ?_
    refine lv_iload_n (pc := 23) hx hb dX11_slipped_23 rfl (lv_at hl 2 rfl) ?_
    obtain ⟨h11_4, hf⟩ := gc_s hf
    refine g_iald (pc := 24) hC hU hH gk1_5 gn1_5 h11_4 dX11_slipped_24 ?_
    refine lv_if_eq (tgt := 38) (pc := 25) hx hb dX11_slipped_25 (by decide) (fun hc => ?_) (fun hc => ?_)
    · have hf := gif_p hc hf
      exact bX11_slipped_38 hC hret hlk hU hk11 hf hH hS (lv_sub hl [0, 1, 2] rfl)
    · have hf := gif_n hc hf
      refine lv_aload_n (pc := 28) hx hb dX11_slipped_28 rfl (lv_at hl 0 rfl) ?_
      refine g_get (pc := 29) (v := .ref (ad 5)) hC hU hH gk1_0 g_cl11 13 (by decide) kf_X11_27 rfl dX11_slipped_29 ?_
      refine lv_iload_n (pc := 32) hx hb dX11_slipped_32 rfl (lv_at hl 2 rfl) ?_
      obtain ⟨h11_5, hf⟩ := gc_s hf
      refine g_iald (pc := 33) hC hU hH gk1_5 gn1_5 h11_5 dX11_slipped_33 ?_
      refine lv_iconst (v := 1) (pc := 34) hx hb dX11_slipped_34 (by decide) ?_
      refine lv_icmp_ne (tgt := 79) (pc := 35) hx hb dX11_slipped_35 (by decide) (fun hc => ?_) (fun hc => ?_)
      · have hf := gif_n hc hf
        refine lv_aload_n (pc := 79) hx hb dX11_slipped_79 rfl (lv_at hl 0 rfl) ?_
        refine g_get (pc := 80) (v := .ref (ad 5)) hC hU hH gk1_0 g_cl11 13 (by decide) kf_X11_27 rfl dX11_slipped_80 ?_
        refine lv_iload_n (pc := 83) hx hb dX11_slipped_83 rfl (lv_at hl 2 rfl) ?_
        obtain ⟨h11_6, hf⟩ := gc_s hf
        refine g_iald (pc := 84) hC hU hH gk1_5 gn1_5 h11_6 dX11_slipped_84 ?_
        refine lv_iconst (v := 2) (pc := 85) hx hb dX11_slipped_85 (by decide) ?_
        refine lv_icmp_ne (tgt := 119) (pc := 86) hx hb dX11_slipped_86 (by decide) (fun hc => ?_) (fun hc => ?_)
        · have hf := gif_n hc hf
          refine lv_iinc (v := l2 + (-1)) (lv' := [(2, .int (l2 + (-1))), (0, .ref (ad 0)), (3, .int l3)]) (k := 1) (pc := 119) hx hb dX11_slipped_119 hl rfl rfl (by decide) rfl (fun ls hl => ?_)
          refine lv_aload_n (pc := 122) hx hb dX11_slipped_122 rfl (lv_at hl 1 rfl) ?_
          refine g_get (pc := 123) (v := .ref (ad 8)) hC hU hH gk1_0 g_cl11 16 (by decide) kf_X11_36 rfl dX11_slipped_123 ?_
          refine lv_iload_n (pc := 126) hx hb dX11_slipped_126 rfl (lv_at hl 0 rfl) ?_
          refine lv_iconst (v := 1) (pc := 127) hx hb dX11_slipped_127 (by decide) ?_
          refine lv_isub (pc := 128) hx hb dX11_slipped_128 ?_
          refine lv_aload_n (pc := 129) hx hb dX11_slipped_129 rfl (lv_at hl 1 rfl) ?_
          refine g_get (pc := 130) (v := .ref (ad 6)) hC hU hH gk1_0 g_cl11 14 (by decide) kf_X11_30 rfl dX11_slipped_130 ?_
          refine lv_iload_n (pc := 133) hx hb dX11_slipped_133 rfl (lv_at hl 2 rfl) ?_
          obtain ⟨h11_7, hf⟩ := gc_s hf
          refine g_iald (pc := 134) hC hU hH gk1_6 gn1_6 h11_7 dX11_slipped_134 ?_
          refine lv_aload_n (pc := 135) hx hb dX11_slipped_135 rfl (lv_at hl 1 rfl) ?_
          refine g_get (pc := 136) (v := .ref (ad 8)) hC hU hH gk1_0 g_cl11 16 (by decide) kf_X11_36 rfl dX11_slipped_136 ?_
          refine lv_iload_n (pc := 139) hx hb dX11_slipped_139 rfl (lv_at hl 0 rfl) ?_
          refine lv_iconst (v := 1) (pc := 140) hx hb dX11_slipped_140 (by decide) ?_
          refine lv_isub (pc := 141) hx hb dX11_slipped_141 ?_
          obtain ⟨h11_8, hf⟩ := gc_s hf
          refine g_iald (pc := 142) hC hU hH gk1_8 gn1_8 h11_8 dX11_slipped_142 ?_
          refine lv_aload_n (pc := 143) hx hb dX11_slipped_143 rfl (lv_at hl 1 rfl) ?_
          refine g_get (pc := 144) (v := .ref (ad 8)) hC hU hH gk1_0 g_cl11 16 (by decide) kf_X11_36 rfl dX11_slipped_144 ?_
          refine lv_iload_n (pc := 147) hx hb dX11_slipped_147 rfl (lv_at hl 0 rfl) ?_
          obtain ⟨h11_9, hf⟩ := gc_s hf
          refine g_iald (pc := 148) hC hU hH gk1_8 gn1_8 h11_9 dX11_slipped_148 ?_
          obtain ⟨q11_1, hq11_1, hf⟩ := gbd hf
          refine g_callSi (pc := 149) (rest := [.int ((l2 + (-1)) - 1), .ref (ad 8)]) hC hU hH hS hl.1 (mX11_done  hq11_1) ky_X11_done km_X11_332 ⟨Nat.le_of_ble_eq_true rfl, Nat.le_of_ble_eq_true rfl⟩ ⟨Nat.zero_le _, Nat.zero_le _⟩ rfl (Nat.le_of_ble_eq_true rfl) dX11_slipped_149 rfl (fun H locs hH hS => ?_)
          obtain ⟨h11_10, hf⟩ := gc_s hf
          refine g_iast (pc := 152) hC hU hH hS gk1_8 gn1_8 h11_10 dX11_slipped_152 (fun H locs hH hS => ?_)
          refine lv_iinc (v := l3 + 1) (lv' := [(3, .int (l3 + 1)), (2, .int (l2 + (-1))), (0, .ref (ad 0))]) (k := 2) (pc := 153) hx hb dX11_slipped_153 hl rfl rfl (by decide) rfl (fun ls hl => ?_)
          refine lv_goto (tgt := 11) (pc := 156) hx hb dX11_slipped_156 (by decide) ?_
          exact hk11 hf hH hS (lv_sub hl [2, 1, 0] rfl)
        · have hf := gif_p hc hf
          refine lv_aload_n (pc := 89) hx hb dX11_slipped_89 rfl (lv_at hl 0 rfl) ?_
          refine g_get (pc := 90) (v := .ref (ad 8)) hC hU hH gk1_0 g_cl11 16 (by decide) kf_X11_36 rfl dX11_slipped_90 ?_
          refine lv_iload_n (pc := 93) hx hb dX11_slipped_93 rfl (lv_at hl 1 rfl) ?_
          refine lv_iconst (v := 1) (pc := 94) hx hb dX11_slipped_94 (by decide) ?_
          refine lv_isub (pc := 95) hx hb dX11_slipped_95 ?_
          refine lv_aload_n (pc := 96) hx hb dX11_slipped_96 rfl (lv_at hl 0 rfl) ?_
          refine g_get (pc := 97) (v := .ref (ad 8)) hC hU hH gk1_0 g_cl11 16 (by decide) kf_X11_36 rfl dX11_slipped_97 ?_
          refine lv_iload_n (pc := 100) hx hb dX11_slipped_100 rfl (lv_at hl 1 rfl) ?_
          refine lv_iconst (v := 1) (pc := 101) hx hb dX11_slipped_101 (by decide) ?_
          refine lv_isub (pc := 102) hx hb dX11_slipped_102 ?_
          obtain ⟨h11_11, hf⟩ := gc_s hf
          refine g_iald (pc := 103) hC hU hH gk1_8 gn1_8 h11_11 dX11_slipped_103 ?_
          refine lv_if_ne (tgt := 111) (pc := 104) hx hb dX11_slipped_104 (by decide) (fun hc => ?_) (fun hc => ?_)
          · have hf := gif_n hc hf
            refine lv_iconst (v := 0) (pc := 111) hx hb dX11_slipped_111 (by decide) ?_
            exact bX11_slipped_112 hC hret hlk hU hk11 hf hH hS (lv_sub hl [0, 1, 2] rfl)
          · have hf := gif_p hc hf
            refine lv_iconst (v := 1) (pc := 107) hx hb dX11_slipped_107 (by decide) ?_
            refine lv_goto (tgt := 112) (pc := 108) hx hb dX11_slipped_108 (by decide) ?_
            exact bX11_slipped_112 hC hret hlk hU hk11 hf hH hS (lv_sub hl [0, 1, 2] rfl)
      · have hf := gif_p hc hf
        exact bX11_slipped_38 hC hret hlk hU hk11 hf hH hS (lv_sub hl [0, 1, 2] rfl)
def hX11_slipped_11 (a1 : Int32)  : Nat → Int32 → Int32 → gS → Option (Int32 × gS)
  | 0 => fun _ _ _ => none
  | n + 1 => fun l2 l3 st => fX11_slipped_11 a1 (hX11_slipped_11 a1 n) l2 l3 st
set_option maxRecDepth 100000 in
set_option maxHeartbeats 4000000 in
theorem wX11_slipped_11 {a1 : Int32} (hC : CallFix p m c cX11_slipped 4 s args lw_good RX11) (hret : meth.sig.returnType = (some .int)) (hlk : meth.locks = false) (hU : gU 1 D cA ad s)  {r : Int32} {st' : gS}  : ∀ (n : Nat) {l2 : Int32} {l3 : Int32} {st : gS} {H : Heap} {locs : List Loc} {ls : Array Slot}, hX11_slipped_11 a1 n l2 l3 st = some (r, st') → gP0 1 D cA ad st H → va_S (gA 1 ad) s.heap H locs → lv_has ls 4 [(0, .ref (ad 0)), (2, .int l2), (3, .int l3)] → W p l e (gRm 3) s m args below meth c H locs 0 0 (MQ below (gQc 1 D cA ad st' (some (.int r))) args s 0 0 (gA 1 ad)) (F0 m 11 ls []) := by
  intro n
  induction n with
  | zero => intro l2 l3 st H locs ls hf hH hS hl; cases hf
  | succ n ih =>
    intro l2 l3 st H locs ls hf hH hS hl
    exact bX11_slipped_11 (a1 := a1) hC hret hlk hU (fun hf hH hS hl => ih hf hH hS hl) hf hH hS hl
def fX11_slipped (a1 : Int32)   (st : gS) : Option (Int32 × gS) :=
  gc (gI 0 64) (hX11_slipped_11 a1 FU 0 0 (wi st 8 (0 : Int32).toNatClampNeg a1))
set_option maxRecDepth 100000 in
set_option maxHeartbeats 4000000 in
theorem bX11_slipped_0 {a1 : Int32} (hC : CallFix p m c cX11_slipped 4 s args lw_good RX11) (hret : meth.sig.returnType = (some .int)) (hlk : meth.locks = false) (hU : gU 1 D cA ad s)  {r : Int32} {st' : gS}   {st : gS} {H : Heap} {locs : List Loc} {ls : Array Slot} (hf : fX11_slipped a1 st = some (r, st')) (hH : gP0 1 D cA ad st H) (hS : va_S (gA 1 ad) s.heap H locs) (hl : lv_has ls 4 [(0, .ref (ad 0)), (1, .int a1)]) : W p l e (gRm 3) s m args below meth c H locs 0 0 (MQ below (gQc 1 D cA ad st' (some (.int r))) args s 0 0 (gA 1 ad)) (F0 m 0 ls []) := by
  obtain ⟨hx, hb, hml, hown, hts⟩ := id hC
  unfold fX11_slipped at hf
  refine lv_iconst (v := 0) (pc := 0) hx hb dX11_slipped_0 (by decide) ?_
  refine lv_istore_n (lv' := [(2, .int 0), (0, .ref (ad 0)), (1, .int a1)]) (pc := 1) hx hb dX11_slipped_1 rfl hl (by decide) rfl (fun ls hl => ?_)
  refine lv_aload_n (pc := 2) hx hb dX11_slipped_2 rfl (lv_at hl 1 rfl) ?_
  refine g_get (pc := 3) (v := .ref (ad 8)) hC hU hH gk1_0 g_cl11 16 (by decide) kf_X11_36 rfl dX11_slipped_3 ?_
  refine lv_iconst (v := 0) (pc := 6) hx hb dX11_slipped_6 (by decide) ?_
  refine lv_iload_n (pc := 7) hx hb dX11_slipped_7 rfl (lv_at hl 2 rfl) ?_
  obtain ⟨h0_1, hf⟩ := gc_s hf
  refine g_iast (pc := 8) hC hU hH hS gk1_8 gn1_8 h0_1 dX11_slipped_8 (fun H locs hH hS => ?_)
  refine lv_iconst (v := 0) (pc := 9) hx hb dX11_slipped_9 (by decide) ?_
  refine lv_istore_n (lv' := [(3, .int 0), (2, .int 0), (0, .ref (ad 0)), (1, .int a1)]) (pc := 10) hx hb dX11_slipped_10 rfl hl (by decide) rfl (fun ls hl => ?_)
  exact wX11_slipped_11 hC hret hlk hU FU hf hH hS (lv_sub hl [2, 1, 0] rfl)
set_option maxRecDepth 100000 in
set_option maxHeartbeats 4000000 in
theorem mX11_slipped {l : Launch} {D : va_G} {cA : Nat → ClassId} {ad : Nat → Nat} {a1 : Int32}  {r : Int32} {st st' : gS} (hf : fX11_slipped a1 st = some (r, st')) : gM l yX11_slipped cX11_slipped 4 (some .int) 3 1 D cA ad st [.ref (ad 0), .int a1] (some (.int r)) st' := by
  refine g_met (by decide) (Nat.le_of_ble_eq_true rfl) ?_
  intro p e s m args below meth c ls hC hret hlk hU hH hl
  exact bX11_slipped_0 hC hret hlk hU hf hH va_S.rf hl
def fX11_slipOf (a1 : Int32) (a2 : Int32)   (st : gS) : Option (Int32 × gS) :=
  gc (gI a2 16) (gc (gI 0 5) (gc (gI a1 5) (gc (gI 1 5) (gc (gI 2 18) (gc (gI 2 5) (gc (gI 3 18) (gc (gI 3 5) (gc (gI 16 18) (gc (gI 4 5) (gc (gI a2 16) (gc (gI a1 5) ((fX11_slipped ((10 * ((wi (wi (wi (wi (wi st 9 (0 : Int32).toNatClampNeg (st.1 24 a2.toNatClampNeg)) 9 (1 : Int32).toNatClampNeg ((wi st 9 (0 : Int32).toNatClampNeg (st.1 24 a2.toNatClampNeg)).1 12 a1.toNatClampNeg)) 9 (2 : Int32).toNatClampNeg ((wi (wi st 9 (0 : Int32).toNatClampNeg (st.1 24 a2.toNatClampNeg)) 9 (1 : Int32).toNatClampNeg ((wi st 9 (0 : Int32).toNatClampNeg (st.1 24 a2.toNatClampNeg)).1 12 a1.toNatClampNeg)).1 28 (2 : Int32).toNatClampNeg)) 9 (3 : Int32).toNatClampNeg ((wi (wi (wi st 9 (0 : Int32).toNatClampNeg (st.1 24 a2.toNatClampNeg)) 9 (1 : Int32).toNatClampNeg ((wi st 9 (0 : Int32).toNatClampNeg (st.1 24 a2.toNatClampNeg)).1 12 a1.toNatClampNeg)) 9 (2 : Int32).toNatClampNeg ((wi (wi st 9 (0 : Int32).toNatClampNeg (st.1 24 a2.toNatClampNeg)) 9 (1 : Int32).toNatClampNeg ((wi st 9 (0 : Int32).toNatClampNeg (st.1 24 a2.toNatClampNeg)).1 12 a1.toNatClampNeg)).1 28 (2 : Int32).toNatClampNeg)).1 28 (3 : Int32).toNatClampNeg)) 9 (4 : Int32).toNatClampNeg ((wi (wi (wi (wi st 9 (0 : Int32).toNatClampNeg (st.1 24 a2.toNatClampNeg)) 9 (1 : Int32).toNatClampNeg ((wi st 9 (0 : Int32).toNatClampNeg (st.1 24 a2.toNatClampNeg)).1 12 a1.toNatClampNeg)) 9 (2 : Int32).toNatClampNeg ((wi (wi st 9 (0 : Int32).toNatClampNeg (st.1 24 a2.toNatClampNeg)) 9 (1 : Int32).toNatClampNeg ((wi st 9 (0 : Int32).toNatClampNeg (st.1 24 a2.toNatClampNeg)).1 12 a1.toNatClampNeg)).1 28 (2 : Int32).toNatClampNeg)) 9 (3 : Int32).toNatClampNeg ((wi (wi (wi st 9 (0 : Int32).toNatClampNeg (st.1 24 a2.toNatClampNeg)) 9 (1 : Int32).toNatClampNeg ((wi st 9 (0 : Int32).toNatClampNeg (st.1 24 a2.toNatClampNeg)).1 12 a1.toNatClampNeg)) 9 (2 : Int32).toNatClampNeg ((wi (wi st 9 (0 : Int32).toNatClampNeg (st.1 24 a2.toNatClampNeg)) 9 (1 : Int32).toNatClampNeg ((wi st 9 (0 : Int32).toNatClampNeg (st.1 24 a2.toNatClampNeg)).1 12 a1.toNatClampNeg)).1 28 (2 : Int32).toNatClampNeg)).1 28 (3 : Int32).toNatClampNeg)).1 28 (16 : Int32).toNatClampNeg)).1 24 a2.toNatClampNeg)) - (5 * ((wi (wi (wi (wi (wi st 9 (0 : Int32).toNatClampNeg (st.1 24 a2.toNatClampNeg)) 9 (1 : Int32).toNatClampNeg ((wi st 9 (0 : Int32).toNatClampNeg (st.1 24 a2.toNatClampNeg)).1 12 a1.toNatClampNeg)) 9 (2 : Int32).toNatClampNeg ((wi (wi st 9 (0 : Int32).toNatClampNeg (st.1 24 a2.toNatClampNeg)) 9 (1 : Int32).toNatClampNeg ((wi st 9 (0 : Int32).toNatClampNeg (st.1 24 a2.toNatClampNeg)).1 12 a1.toNatClampNeg)).1 28 (2 : Int32).toNatClampNeg)) 9 (3 : Int32).toNatClampNeg ((wi (wi (wi st 9 (0 : Int32).toNatClampNeg (st.1 24 a2.toNatClampNeg)) 9 (1 : Int32).toNatClampNeg ((wi st 9 (0 : Int32).toNatClampNeg (st.1 24 a2.toNatClampNeg)).1 12 a1.toNatClampNeg)) 9 (2 : Int32).toNatClampNeg ((wi (wi st 9 (0 : Int32).toNatClampNeg (st.1 24 a2.toNatClampNeg)) 9 (1 : Int32).toNatClampNeg ((wi st 9 (0 : Int32).toNatClampNeg (st.1 24 a2.toNatClampNeg)).1 12 a1.toNatClampNeg)).1 28 (2 : Int32).toNatClampNeg)).1 28 (3 : Int32).toNatClampNeg)) 9 (4 : Int32).toNatClampNeg ((wi (wi (wi (wi st 9 (0 : Int32).toNatClampNeg (st.1 24 a2.toNatClampNeg)) 9 (1 : Int32).toNatClampNeg ((wi st 9 (0 : Int32).toNatClampNeg (st.1 24 a2.toNatClampNeg)).1 12 a1.toNatClampNeg)) 9 (2 : Int32).toNatClampNeg ((wi (wi st 9 (0 : Int32).toNatClampNeg (st.1 24 a2.toNatClampNeg)) 9 (1 : Int32).toNatClampNeg ((wi st 9 (0 : Int32).toNatClampNeg (st.1 24 a2.toNatClampNeg)).1 12 a1.toNatClampNeg)).1 28 (2 : Int32).toNatClampNeg)) 9 (3 : Int32).toNatClampNeg ((wi (wi (wi st 9 (0 : Int32).toNatClampNeg (st.1 24 a2.toNatClampNeg)) 9 (1 : Int32).toNatClampNeg ((wi st 9 (0 : Int32).toNatClampNeg (st.1 24 a2.toNatClampNeg)).1 12 a1.toNatClampNeg)) 9 (2 : Int32).toNatClampNeg ((wi (wi st 9 (0 : Int32).toNatClampNeg (st.1 24 a2.toNatClampNeg)) 9 (1 : Int32).toNatClampNeg ((wi st 9 (0 : Int32).toNatClampNeg (st.1 24 a2.toNatClampNeg)).1 12 a1.toNatClampNeg)).1 28 (2 : Int32).toNatClampNeg)).1 28 (3 : Int32).toNatClampNeg)).1 28 (16 : Int32).toNatClampNeg)).1 12 a1.toNatClampNeg))) (wi (wi (wi (wi (wi st 9 (0 : Int32).toNatClampNeg (st.1 24 a2.toNatClampNeg)) 9 (1 : Int32).toNatClampNeg ((wi st 9 (0 : Int32).toNatClampNeg (st.1 24 a2.toNatClampNeg)).1 12 a1.toNatClampNeg)) 9 (2 : Int32).toNatClampNeg ((wi (wi st 9 (0 : Int32).toNatClampNeg (st.1 24 a2.toNatClampNeg)) 9 (1 : Int32).toNatClampNeg ((wi st 9 (0 : Int32).toNatClampNeg (st.1 24 a2.toNatClampNeg)).1 12 a1.toNatClampNeg)).1 28 (2 : Int32).toNatClampNeg)) 9 (3 : Int32).toNatClampNeg ((wi (wi (wi st 9 (0 : Int32).toNatClampNeg (st.1 24 a2.toNatClampNeg)) 9 (1 : Int32).toNatClampNeg ((wi st 9 (0 : Int32).toNatClampNeg (st.1 24 a2.toNatClampNeg)).1 12 a1.toNatClampNeg)) 9 (2 : Int32).toNatClampNeg ((wi (wi st 9 (0 : Int32).toNatClampNeg (st.1 24 a2.toNatClampNeg)) 9 (1 : Int32).toNatClampNeg ((wi st 9 (0 : Int32).toNatClampNeg (st.1 24 a2.toNatClampNeg)).1 12 a1.toNatClampNeg)).1 28 (2 : Int32).toNatClampNeg)).1 28 (3 : Int32).toNatClampNeg)) 9 (4 : Int32).toNatClampNeg ((wi (wi (wi (wi st 9 (0 : Int32).toNatClampNeg (st.1 24 a2.toNatClampNeg)) 9 (1 : Int32).toNatClampNeg ((wi st 9 (0 : Int32).toNatClampNeg (st.1 24 a2.toNatClampNeg)).1 12 a1.toNatClampNeg)) 9 (2 : Int32).toNatClampNeg ((wi (wi st 9 (0 : Int32).toNatClampNeg (st.1 24 a2.toNatClampNeg)) 9 (1 : Int32).toNatClampNeg ((wi st 9 (0 : Int32).toNatClampNeg (st.1 24 a2.toNatClampNeg)).1 12 a1.toNatClampNeg)).1 28 (2 : Int32).toNatClampNeg)) 9 (3 : Int32).toNatClampNeg ((wi (wi (wi st 9 (0 : Int32).toNatClampNeg (st.1 24 a2.toNatClampNeg)) 9 (1 : Int32).toNatClampNeg ((wi st 9 (0 : Int32).toNatClampNeg (st.1 24 a2.toNatClampNeg)).1 12 a1.toNatClampNeg)) 9 (2 : Int32).toNatClampNeg ((wi (wi st 9 (0 : Int32).toNatClampNeg (st.1 24 a2.toNatClampNeg)) 9 (1 : Int32).toNatClampNeg ((wi st 9 (0 : Int32).toNatClampNeg (st.1 24 a2.toNatClampNeg)).1 12 a1.toNatClampNeg)).1 28 (2 : Int32).toNatClampNeg)).1 28 (3 : Int32).toNatClampNeg)).1 28 (16 : Int32).toNatClampNeg))).bind fun q0_1 => (some (q0_1.1, q0_1.2))))))))))))))
set_option maxRecDepth 100000 in
set_option maxHeartbeats 4000000 in
theorem bX11_slipOf_0 {a1 : Int32} {a2 : Int32} (hC : CallFix p m c cX11_slipOf 3 s args lw_good RX11) (hret : meth.sig.returnType = (some .int)) (hlk : meth.locks = false) (hU : gU 1 D cA ad s)  {r : Int32} {st' : gS}   {st : gS} {H : Heap} {locs : List Loc} {ls : Array Slot} (hf : fX11_slipOf a1 a2 st = some (r, st')) (hH : gP0 1 D cA ad st H) (hS : va_S (gA 1 ad) s.heap H locs) (hl : lv_has ls 3 [(0, .ref (ad 0)), (1, .int a1), (2, .int a2)]) : W p l e (gRm 4) s m args below meth c H locs 0 0 (MQ below (gQc 1 D cA ad st' (some (.int r))) args s 0 0 (gA 1 ad)) (F0 m 0 ls []) := by
  obtain ⟨hx, hb, hml, hown, hts⟩ := id hC
  unfold fX11_slipOf at hf
  refine lv_aload_n (pc := 0) hx hb dX11_slipOf_0 rfl (lv_at hl 0 rfl) ?_
  refine g_get (pc := 1) (v := .ref (ad 9)) hC hU hH gk1_0 g_cl11 24 (by decide) kf_X11_39 rfl dX11_slipOf_1 ?_
  refine lv_iconst (v := 0) (pc := 4) hx hb dX11_slipOf_4 (by decide) ?_
  refine lv_aload_n (pc := 5) hx hb dX11_slipOf_5 rfl (lv_at hl 0 rfl) ?_
  refine g_get (pc := 6) (v := .ref (ad 24)) hC hU hH gk1_0 g_cl11 39 (by decide) kf_X11_84 rfl dX11_slipOf_6 ?_
  refine lv_iload_n (pc := 9) hx hb dX11_slipOf_9 rfl (lv_at hl 2 rfl) ?_
  obtain ⟨h0_1, hf⟩ := gc_s hf
  refine g_iald (pc := 10) hC hU hH gk1_24 gn1_24 h0_1 dX11_slipOf_10 ?_
  obtain ⟨h0_2, hf⟩ := gc_s hf
  refine g_iast (pc := 11) hC hU hH hS gk1_9 gn1_9 h0_2 dX11_slipOf_11 (fun H locs hH hS => ?_)
  refine lv_aload_n (pc := 12) hx hb dX11_slipOf_12 rfl (lv_at hl 0 rfl) ?_
  refine g_get (pc := 13) (v := .ref (ad 9)) hC hU hH gk1_0 g_cl11 24 (by decide) kf_X11_39 rfl dX11_slipOf_13 ?_
  refine lv_iconst (v := 1) (pc := 16) hx hb dX11_slipOf_16 (by decide) ?_
  refine lv_aload_n (pc := 17) hx hb dX11_slipOf_17 rfl (lv_at hl 0 rfl) ?_
  refine g_get (pc := 18) (v := .ref (ad 12)) hC hU hH gk1_0 g_cl11 27 (by decide) kf_X11_48 rfl dX11_slipOf_18 ?_
  refine lv_iload_n (pc := 21) hx hb dX11_slipOf_21 rfl (lv_at hl 1 rfl) ?_
  obtain ⟨h0_3, hf⟩ := gc_s hf
  refine g_iald (pc := 22) hC hU hH gk1_12 gn1_12 h0_3 dX11_slipOf_22 ?_
  obtain ⟨h0_4, hf⟩ := gc_s hf
  refine g_iast (pc := 23) hC hU hH hS gk1_9 gn1_9 h0_4 dX11_slipOf_23 (fun H locs hH hS => ?_)
  refine lv_aload_n (pc := 24) hx hb dX11_slipOf_24 rfl (lv_at hl 0 rfl) ?_
  refine g_get (pc := 25) (v := .ref (ad 9)) hC hU hH gk1_0 g_cl11 24 (by decide) kf_X11_39 rfl dX11_slipOf_25 ?_
  refine lv_iconst (v := 2) (pc := 28) hx hb dX11_slipOf_28 (by decide) ?_
  refine lv_aload_n (pc := 29) hx hb dX11_slipOf_29 rfl (lv_at hl 0 rfl) ?_
  refine g_get (pc := 30) (v := .ref (ad 28)) hC hU hH gk1_0 g_cl11 55 (by decide) kf_X11_100 rfl dX11_slipOf_30 ?_
  refine lv_iconst (v := 2) (pc := 33) hx hb dX11_slipOf_33 (by decide) ?_
  obtain ⟨h0_5, hf⟩ := gc_s hf
  refine g_iald (pc := 34) hC hU hH gk1_28 gn1_28 h0_5 dX11_slipOf_34 ?_
  obtain ⟨h0_6, hf⟩ := gc_s hf
  refine g_iast (pc := 35) hC hU hH hS gk1_9 gn1_9 h0_6 dX11_slipOf_35 (fun H locs hH hS => ?_)
  refine lv_aload_n (pc := 36) hx hb dX11_slipOf_36 rfl (lv_at hl 0 rfl) ?_
  refine g_get (pc := 37) (v := .ref (ad 9)) hC hU hH gk1_0 g_cl11 24 (by decide) kf_X11_39 rfl dX11_slipOf_37 ?_
  refine lv_iconst (v := 3) (pc := 40) hx hb dX11_slipOf_40 (by decide) ?_
  refine lv_aload_n (pc := 41) hx hb dX11_slipOf_41 rfl (lv_at hl 0 rfl) ?_
  refine g_get (pc := 42) (v := .ref (ad 28)) hC hU hH gk1_0 g_cl11 55 (by decide) kf_X11_100 rfl dX11_slipOf_42 ?_
  refine lv_iconst (v := 3) (pc := 45) hx hb dX11_slipOf_45 (by decide) ?_
  obtain ⟨h0_7, hf⟩ := gc_s hf
  refine g_iald (pc := 46) hC hU hH gk1_28 gn1_28 h0_7 dX11_slipOf_46 ?_
  obtain ⟨h0_8, hf⟩ := gc_s hf
  refine g_iast (pc := 47) hC hU hH hS gk1_9 gn1_9 h0_8 dX11_slipOf_47 (fun H locs hH hS => ?_)
  refine lv_aload_n (pc := 48) hx hb dX11_slipOf_48 rfl (lv_at hl 0 rfl) ?_
  refine g_get (pc := 49) (v := .ref (ad 9)) hC hU hH gk1_0 g_cl11 24 (by decide) kf_X11_39 rfl dX11_slipOf_49 ?_
  refine lv_iconst (v := 4) (pc := 52) hx hb dX11_slipOf_52 (by decide) ?_
  refine lv_aload_n (pc := 53) hx hb dX11_slipOf_53 rfl (lv_at hl 0 rfl) ?_
  refine g_get (pc := 54) (v := .ref (ad 28)) hC hU hH gk1_0 g_cl11 55 (by decide) kf_X11_100 rfl dX11_slipOf_54 ?_
  refine lv_bipush (v := 16) (pc := 57) hx hb dX11_slipOf_57 (by decide) ?_
  obtain ⟨h0_9, hf⟩ := gc_s hf
  refine g_iald (pc := 59) hC hU hH gk1_28 gn1_28 h0_9 dX11_slipOf_59 ?_
  obtain ⟨h0_10, hf⟩ := gc_s hf
  refine g_iast (pc := 60) hC hU hH hS gk1_9 gn1_9 h0_10 dX11_slipOf_60 (fun H locs hH hS => ?_)
  refine lv_aload_n (pc := 61) hx hb dX11_slipOf_61 rfl (lv_at hl 0 rfl) ?_
  refine lv_bipush (v := 10) (pc := 62) hx hb dX11_slipOf_62 (by decide) ?_
  refine lv_aload_n (pc := 64) hx hb dX11_slipOf_64 rfl (lv_at hl 0 rfl) ?_
  refine g_get (pc := 65) (v := .ref (ad 24)) hC hU hH gk1_0 g_cl11 39 (by decide) kf_X11_84 rfl dX11_slipOf_65 ?_
  refine lv_iload_n (pc := 68) hx hb dX11_slipOf_68 rfl (lv_at hl 2 rfl) ?_
  obtain ⟨h0_11, hf⟩ := gc_s hf
  refine g_iald (pc := 69) hC hU hH gk1_24 gn1_24 h0_11 dX11_slipOf_69 ?_
  refine lv_imul (pc := 70) hx hb dX11_slipOf_70 ?_
  refine lv_iconst (v := 5) (pc := 71) hx hb dX11_slipOf_71 (by decide) ?_
  refine lv_aload_n (pc := 72) hx hb dX11_slipOf_72 rfl (lv_at hl 0 rfl) ?_
  refine g_get (pc := 73) (v := .ref (ad 12)) hC hU hH gk1_0 g_cl11 27 (by decide) kf_X11_48 rfl dX11_slipOf_73 ?_
  refine lv_iload_n (pc := 76) hx hb dX11_slipOf_76 rfl (lv_at hl 1 rfl) ?_
  obtain ⟨h0_12, hf⟩ := gc_s hf
  refine g_iald (pc := 77) hC hU hH gk1_12 gn1_12 h0_12 dX11_slipOf_77 ?_
  refine lv_imul (pc := 78) hx hb dX11_slipOf_78 ?_
  refine lv_isub (pc := 79) hx hb dX11_slipOf_79 ?_
  obtain ⟨q0_1, hq0_1, hf⟩ := gbd hf
  refine g_callVi (pc := 80) (rest := []) hC hU hH hS hl.1 gk1_0 rfl (by decide) (mX11_slipped  hq0_1) ky_X11_slipped km_X11_424 ⟨Nat.le_of_ble_eq_true rfl, Nat.le_of_ble_eq_true rfl⟩ ⟨Nat.zero_le _, Nat.zero_le _⟩ rfl (Nat.le_of_ble_eq_true rfl) dX11_slipOf_80 rfl (fun H locs hH hS => ?_)
  exact g_iret (pc := 83) hC hret hlk hH hS hf dX11_slipOf_83
set_option maxRecDepth 100000 in
set_option maxHeartbeats 4000000 in
theorem mX11_slipOf {l : Launch} {D : va_G} {cA : Nat → ClassId} {ad : Nat → Nat} {a1 : Int32} {a2 : Int32}  {r : Int32} {st st' : gS} (hf : fX11_slipOf a1 a2 st = some (r, st')) : gM l yX11_slipOf cX11_slipOf 3 (some .int) 4 1 D cA ad st [.ref (ad 0), .int a1, .int a2] (some (.int r)) st' := by
  refine g_met (by decide) (Nat.le_of_ble_eq_true rfl) ?_
  intro p e s m args below meth c ls hC hret hlk hU hH hl
  exact bX11_slipOf_0 hC hret hlk hU hf hH va_S.rf hl
end

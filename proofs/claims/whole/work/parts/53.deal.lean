/-! ===== deal ===== -/
theorem other_cases {x y : gS} (h : Inv x y) (a : Int32) : (fX10_isOther a x = some (0, x) ∧ fX11_isOther a y = some (0, y)) ∨ ∃ o b, o < nT y ∧ b < nT y ∧ a = nI o ∧ y.1 28 1 = nI b ∧ x.1 20 3 = nI b ∧ fX10_isOther a x = some (1, x) ∧ fX11_isOther a y = some (1, y) := by
  obtain ⟨ok, r0, r1, -⟩ := h.now
  unfold fX10_isOther fX11_isOther
  rw [gc_p h.told8]
  rcases inR_dec a (y.1 0 49) with q | q
  · rw [(isTri h.wf a).1 q, (hasTri x _ a).1 (by rw [h.xt.1.2.1]; exact q), bd, bd]
    dsimp only
    rw [if_neg one0, if_neg one0, gc_p (by decide), show (1 : Int32).toNatClampNeg = 1 from rfl, r1]
    by_cases z : a = y.1 28 1
    · rw [if_pos z, if_pos z]; exact Or.inl ⟨rfl, rfl⟩
    · rw [if_neg z, if_neg z]
      obtain ⟨o, ho, rfl⟩ := inT h.wf q
      rcases ok.2.1 with w | w
      · omega
      · exact Or.inr ⟨o, vN (y.1 28 1), ho, w.2, rfl, w.1, w.1, rfl, rfl⟩
  · rw [(isTri h.wf a).2 q, (hasTri x _ a).2 (by rw [h.xt.1.2.1]; exact q), bd, bd]
    exact Or.inl ⟨rfl, rfl⟩
/-- who takes at a turn -/
def pr (o b turn : Nat) : Nat := if turn = 0 then o else b
def chs (y : gS) (k : Nat) (L : Nat → Nat) (f : Nat) : Nat → Nat
  | 0 => f
  | m + 1 => if fr y m = f ∧ cnb y k m = true ∧ wo y k (chs y k L f m) < wo y k (L (tO y m)) then L (tO y m) else chs y k L f m
theorem chs_lt {y : gS} (hw : WFy y) {k f : Nat} {L : Nat → Nat} (hL : ∀ g, g < nF y → L g < nF y) (hf : f < nF y) : ∀ m, m ≤ nM y → chs y k L f m < nF y := by
  intro m
  induction m with
  | zero => intro _; exact hf
  | succ m ih =>
    intro hm
    rw [chs]
    split
    · exact hL _ (tO_lt hw (by omega))
    · exact ih (by omega)
def dl (y : gS) (o b : Nat) : Nat → Nat → Nat → Nat
  | 0 => fun _ f => f
  | n + 1 => fun turn f => chs y (pr o b turn) (dl y o b n (1 - turn)) f (nM y)
theorem dl_lt {y : gS} (hw : WFy y) (o b n : Nat) : ∀ turn f, f < nF y → dl y o b n turn f < nF y := by
  induction n with
  | zero => intro _ f hf; exact hf
  | succ n ih => intro turn f hf; exact chs_lt hw (fun g hg => ih _ g hg) hf _ (Nat.le_refl _)
theorem Xchoose {x y : gS} {t : Nat} (hw : WFy y) (hx : XT x t y) {k f : Nat} {L : Nat → Nat} (hk : k < nT y) (hf : f < nF y) (hL : ∀ g, g < nF y → L g < nF y) (h166 : ∀ g, g < nF y → x.1 166 g = nI (L g)) : fX9_choose t (nI k) (nI f) x = some (nI (chs y k L f (nM y)), x) := by
  unfold fX9_choose
  have hM := nM17 hw
  have hF := nF9 hw
  obtain ⟨s, _, e, hp⟩ := lp (fun n (s : Int32 × Int32 × gS) => hX9_choose_6 t (nI k) (nI f) n s.1 s.2.1 s.2.2) (nM y) (fun i s => s = (nI (chs y k L f i), nI i, x)) (by
    intro n i s hi hs
    subst hs
    refine ⟨_, ?_, rfl⟩
    show fX9_choose_6 t _ _ (hX9_choose_6 t _ _ n) _ (nI i) x = _
    have f1 := fr_lt hw hi
    have f2 := tO_lt hw hi
    have c1 := chs_lt hw (k := k) hL hf i (by omega)
    have c2 := hL _ f2
    have w1 := wo100 hw hk (f := L (tO y i)) (by omega)
    have w2 := wo100 hw hk (f := chs y k L f i) (by omega)
    unfold fX9_choose_6
    rw [xM hw hx, if_neg (nle hi (by omega)), gc_p (gI_nI (by omega) (by decide)), nI_clamp (by omega), xfr_e hw hx hi, Xcan hw hx hk hi, bd]
    dsimp only
    rw [gc_p (gI_nI (by omega) (by decide)), xtO_e hw hx hi, gc_p (gI_nI (by omega) (by decide)), nI_clamp (by omega), h166 _ f2]
    unfold gl
    dsimp only
    rw [Xworth hw hx hk c2, bd]
    dsimp only
    rw [Xworth hw hx hk c1, bd]
    dsimp only
    rw [nI_s, chs]
    by_cases z1 : fr y i = f
    · rw [if_pos (by rw [z1])]
      cases z2 : cnb y k i
      · rw [if_pos zero0', if_neg (by simp)]
      · rw [if_neg one0']
        by_cases z3 : wo y k (chs y k L f i) < wo y k (L (tO y i))
        · rw [if_neg (fun q => by have := (nI_le' (by omega) (by omega)).mp q; omega), if_pos ⟨z1, rfl, z3⟩]
        · rw [if_pos ((nI_le' (by omega) (by omega)).mpr (by omega)), if_neg (fun q => z3 q.2.2)]
    · rw [if_neg (fun q => z1 ((nI_inj (by omega) (by omega)).mp q)), if_neg (fun q => z1 q.1)]) 0 (nI f, 0, x) FU (by omega) rfl (FU_gt (by omega))
  subst hp
  refine e.trans ?_
  show fX9_choose_6 t _ _ _ _ _ x = _
  unfold fX9_choose_6
  rw [xM hw hx, if_pos (yle _)]
theorem YtakerAt {y : gS} {o b turn : Nat} (ht : turn < 2) (hb : y.1 28 1 = nI b) : fX11_takerAt (nI turn) (nI o) y = some (nI (pr o b turn), y) := by
  unfold fX11_takerAt pr
  match turn, ht with
  | 0, _ => rfl
  | 1, _ => rw [if_neg (show ¬ nI 1 = 0 by decide), gc_p (by decide), show (1 : Int32).toNatClampNeg = 1 from rfl, hb]; rfl
  | n + 2, h => exact absurd h (by omega)
theorem pr_lt {n o b turn : Nat} (h1 : o < n) (h2 : b < n) : pr o b turn < n := by unfold pr; split <;> assumption
theorem e1t {turn : Nat} (ht : turn < 2) : (1 : Int32) - nI turn = nI (1 - turn) := pk_sub (a := 1) (by omega)
theorem YsettledBy {y : gS} (hw : WFy y) {o b turn f : Nat} {L : Nat → Nat} (ht : turn < 2) (hb : y.1 28 1 = nI b) (ho : o < nT y) (hbT : b < nT y) (hf : f < nF y) (hL : ∀ g, g < nF y → L g < nF y) (h35 : ∀ g, g < nF y → y.1 35 (8 * (1 - turn) + g) = nI (L g)) : fX11_settledBy (nI f) (nI turn) (nI o) y = some (nI (chs y (pr o b turn) L f (nM y)), y) := by
  unfold fX11_settledBy
  rw [YtakerAt ht hb, bd]
  dsimp only
  have hM := nM17 hw
  have hF := nF9 hw
  have hk : pr o b turn < nT y := pr_lt ho hbT
  generalize pr o b turn = k at hk
  obtain ⟨s, _, e, hp⟩ := lp (fun n (s : Int32 × Int32 × gS) => hX11_settledBy_14 (nI f) (nI turn) (nI o) n (nI k) s.1 s.2.1 s.2.2) (nM y) (fun i s => s = (nI (chs y k L f i), nI i, y)) (by
    intro n i s hi hs
    subst hs
    refine ⟨_, ?_, rfl⟩
    show fX11_settledBy_14 (nI f) (nI turn) (nI o) (hX11_settledBy_14 (nI f) (nI turn) (nI o) n) (nI k) _ (nI i) y = _
    have f1 := fr_lt hw hi
    have f2 := tO_lt hw hi
    have c1 := chs_lt hw (k := k) hL hf i (by omega)
    have c2 := hL _ f2
    have w1 := wo100 hw hk (f := L (tO y i)) (by omega)
    have w2 := wo100 hw hk (f := chs y k L f i) (by omega)
    have e8 : 8 * (1 - nI turn) + nI (tO y i) = nI (8 * (1 - turn) + tO y i) := by
      rw [e1t ht, show 8 * nI (1 - turn) = nI (8 * (1 - turn)) from pk_mul 8 (1 - turn), nI_ad]
    unfold fX11_settledBy_14
    rw [eM hw, if_neg (nle hi (by omega)), gc_p (gI_nI (by omega) (by decide)), nI_clamp (by omega), fr_e hw hi, Ycan hw hk hi, bd]
    dsimp only
    rw [gc_p (gI_nI (by omega) (by decide)), tO_e hw hi, e8, gc_p (gI_nI (by omega) (by decide)), nI_clamp (by omega), h35 _ f2]
    unfold gl
    dsimp only
    rw [Yworth hw hk c2, bd]
    dsimp only
    rw [Yworth hw hk c1, bd]
    dsimp only
    rw [nI_s, chs]
    by_cases z1 : fr y i = f
    · rw [if_pos (by rw [z1])]
      cases z2 : cnb y k i
      · rw [if_pos zero0', if_neg (by simp)]
      · rw [if_neg one0']
        by_cases z3 : wo y k (chs y k L f i) < wo y k (L (tO y i))
        · rw [if_neg (fun q => by have := (nI_le' (by omega) (by omega)).mp q; omega), if_pos ⟨z1, rfl, z3⟩]
        · rw [if_pos ((nI_le' (by omega) (by omega)).mpr (by omega)), if_neg (fun q => z3 q.2.2)]
    · rw [if_neg (fun q => z1 ((nI_inj (by omega) (by omega)).mp q)), if_neg (fun q => z1 q.1)]) 0 (nI f, 0, y) FU (by omega) rfl (FU_gt (by omega))
  subst hp
  refine e.trans ?_
  show fX11_settledBy_14 (nI f) (nI turn) (nI o) _ _ _ _ y = _
  unfold fX11_settledBy_14
  rw [eM hw, if_pos (yle _)]
theorem FX.inv {x x' y : gS} (h : FX x x') (hi : Inv x y) : Inv x' y := Inv_fr hi h (FY.rf y)
theorem FY.inv {x y y' : gS} (h : FY y y') (hi : Inv x y) : Inv x y' := Inv_fr hi (FX.rf x) h
theorem FX_wa {x : gS} {k : Nat} {f : Nat → Int32} (h : ∀ j, scrX k j) : FX x (wa x k f) := ⟨rfl, fun a b hs => by
  rw [wa_1]
  by_cases e : a = k
  · exact absurd (e ▸ h b) hs
  · rw [if_neg e]⟩
theorem chs_eq {y s : gS} (h : FY y s) (k : Nat) (L : Nat → Nat) (f n : Nat) : chs s k L f n = chs y k L f n := by
  induction n with
  | zero => rfl
  | succ n ih => rw [chs, chs, ih, h.fr, h.cnb, h.wo, h.wo, h.tO]
theorem bit1 (n : Nat) (h : n < 2 ^ 31) : nI n &&& 1 = nI (n % 2) := pk_andN (n := n) (by omega) (m := 1) 1 (by decide)
theorem Xsit {x y : gS} (h : Inv x y) {o b : Nat} (hb : x.1 20 3 = nI b) : ∃ x', fX9_sit 20 (nI o) x = some x' ∧ FX x x' ∧ ∀ turn, turn < 2 → x'.1 151 turn = nI (pr o b turn) := by
  unfold fX9_sit
  rw [gc_p (by decide), gc_p (by decide), show (0 : Int32).toNatClampNeg = 0 from rfl, show (1 : Int32).toNatClampNeg = 1 from rfl, wi_ne (by decide), hb]
  refine ⟨_, rfl, (FX_wi (by unfold scrX; omega)).tr (FX_wi (by unfold scrX; omega)), fun turn ht => ?_⟩
  match turn, ht with
  | 0, _ => rw [wi_1, if_neg (by omega), wi_1, if_pos ⟨rfl, rfl⟩]; rfl
  | 1, _ => rw [wi_1, if_pos ⟨rfl, rfl⟩]; rfl
  | n + 2, h => exact absurd h (by omega)
theorem now_fig {x y : gS} (h : Inv x y) (hF : 0 < nF y) : ∃ f, f < nF y ∧ y.1 28 0 = nI f ∧ x.1 20 2 = nI f := by
  obtain ⟨ok, r0, -⟩ := h.now
  rcases ok.1 with w | w
  · omega
  · exact ⟨_, w.2, w.1, r0.trans w.1⟩
theorem Xsettle {x y : gS} (h : Inv x y) {o b f N : Nat} (ho : o < nT y) (hb : b < nT y) (hf : f < nF y) (hN : N < 9) (h3 : x.1 20 3 = nI b) (h2 : x.1 20 2 = nI f) : ∃ x', fX9_settle (x.2.2 0 9) 20 (nI o) (nI N) x = some (nI (dl y o b N 0 f), x') ∧ FX x x' := by
  have hw := h.wf
  have hF := nF9 hw
  unfold fX9_settle
  rw [h2, Xfig hw h.xt.1 hf, bd]
  dsimp only
  obtain ⟨x1, s1, s2, s3⟩ := Xsit h (o := o) h3
  rw [if_neg one0, s1, bd]
  -- settled, to begin with
  obtain ⟨s, _, e, hp⟩ := lp (fun n (s : Int32 × gS) => hX9_settle_22 (x.2.2 0 9) 20 (nI o) (nI N) n s.1 s.2) 8 (fun i s => s.1 = nI i ∧ FX x s.2 ∧ (∀ turn, turn < 2 → s.2.1 151 turn = nI (pr o b turn)) ∧ ∀ g, g < i → s.2.1 165 g = nI g) (by
    intro n i ⟨l5, st⟩ hi ⟨q1, q2, q3, q4⟩
    dsimp only at q1 q2 q3 q4
    subst q1
    show ∃ s', fX9_settle_22 (x.2.2 0 9) 20 (nI o) (nI N) (hX9_settle_22 (x.2.2 0 9) 20 (nI o) (nI N) n) (nI i) st = _ ∧ _
    unfold fX9_settle_22
    rw [if_neg (show ¬ 8 ≤ nI i from nI_ge (b := 8) (by omega) (by omega)), gc_p (gI_nI (by omega) (by decide)), nI_clamp (by omega), nI_s]
    refine ⟨(_, _), rfl, rfl, q2.tr (FX_wi (by unfold scrX; omega)), fun turn ht => by show (wi st 165 i _).1 151 turn = _; rw [wi_ne (by decide)]; exact q3 turn ht, fun g hg => ?_⟩
    show (wi st 165 i (nI i)).1 165 g = _
    rw [wi_1]
    by_cases z : g = i
    · rw [if_pos ⟨rfl, z⟩, z]
    · rw [if_neg (fun q => z q.2)]; exact q4 g (by omega)) 0 (0, x1) FU (by omega) ⟨rfl, s2, s3, fun g hg => absurd hg (by omega)⟩ (FU_gt (by omega))
  obtain ⟨l5, st⟩ := s
  obtain ⟨q1, q2, q3, q4⟩ := hp
  dsimp only at q1 q2 q3 q4
  subst q1
  have e2 : hX9_settle_22 (x.2.2 0 9) 20 (nI o) (nI N) FU 0 x1 = hX9_settle_50 (x.2.2 0 9) 20 (nI o) (nI N) FU (nI N - 1) st := e.trans (by
    show fX9_settle_22 (x.2.2 0 9) 20 (nI o) (nI N) _ _ st = _
    unfold fX9_settle_22
    rw [if_pos (show (8 : Int32) ≤ nI 8 by decide)])
  rw [e2]
  -- from the last taking back; i takings are done
  obtain ⟨s, _, e, hp⟩ := lp (fun n (s : Int32 × gS) => hX9_settle_50 (x.2.2 0 9) 20 (nI o) (nI N) n s.1 s.2) N (fun i s => s.1 = nI (N - i) - 1 ∧ FX x s.2 ∧ (∀ turn, turn < 2 → s.2.1 151 turn = nI (pr o b turn)) ∧ ∀ g, g < nF y → s.2.1 165 g = nI (dl y o b i ((N - i) % 2) g)) (by
    intro n i ⟨l5, st⟩ hi ⟨q1, q2, q3, q4⟩
    dsimp only at q1 q2 q3 q4
    have el : l5 = nI (N - i - 1) := q1.trans (pk_sub (a := N - i) (b := 1) (by omega))
    subst el
    show ∃ s', fX9_settle_50 (x.2.2 0 9) 20 (nI o) (nI N) (hX9_settle_50 (x.2.2 0 9) 20 (nI o) (nI N) n) (nI (N - i - 1)) st = _ ∧ _
    unfold fX9_settle_50
    rw [if_neg (nI_nn (by omega))]
    have hm : (N - i) % 2 = 1 - (N - i - 1) % 2 := by omega
    have t2 : (N - i - 1) % 2 < 2 := Nat.mod_lt _ (by decide)
    obtain ⟨s, m, e, hp⟩ := lp (fun n2 (s : Int32 × gS) => hX9_settle_73 (x.2.2 0 9) 20 (nI o) (nI N) (hX9_settle_50 (x.2.2 0 9) 20 (nI o) (nI N) n) n2 (nI (N - i - 1)) s.1 s.2) (nF y) (fun f s => s.1 = nI f ∧ FX x s.2 ∧ (∀ turn, turn < 2 → s.2.1 151 turn = nI (pr o b turn)) ∧ (∀ g, g < nF y → s.2.1 166 g = nI (dl y o b i ((N - i) % 2) g)) ∧ ∀ g, g < f → s.2.1 165 g = nI (dl y o b (i + 1) ((N - i - 1) % 2) g)) (by
      intro n2 f ⟨l6, st⟩ hf ⟨q1, q2, q3, q4, q5⟩
      dsimp only at q1 q2 q3 q4 q5
      subst q1
      have hs := q2.inv h
      have et : st.2.2 0 9 = x.2.2 0 9 := by rw [q2.1]
      have hxs := hs.xt
      rw [et] at hxs
      show ∃ s', fX9_settle_73 (x.2.2 0 9) 20 (nI o) (nI N) (hX9_settle_50 (x.2.2 0 9) 20 (nI o) (nI N) n) (hX9_settle_73 (x.2.2 0 9) 20 (nI o) (nI N) (hX9_settle_50 (x.2.2 0 9) 20 (nI o) (nI N) n) n2) _ (nI f) st = _ ∧ _
      unfold fX9_settle_73
      rw [xF hw hxs, if_neg (nle hf (by omega)), bit1 _ (by omega), gc_p (gI_nI t2 (by decide)), nI_clamp (by omega), q3 _ t2, Xchoose hw hxs (pr_lt ho hb) hf (fun g hg => dl_lt hw o b i _ g hg) q4, bd]
      dsimp only
      rw [gc_p (gI_nI (by omega) (by decide)), nI_clamp (by omega), nI_s]
      refine ⟨(_, _), rfl, rfl, q2.tr (FX_wi (by unfold scrX; omega)), fun turn ht => ?_, fun g hg => ?_, fun g hg => ?_⟩
      · show (wi st 165 f _).1 151 turn = _
        rw [wi_ne (by decide)]; exact q3 turn ht
      · show (wi st 165 f _).1 166 g = _
        rw [wi_ne (by decide)]; exact q4 g hg
      · show (wi st 165 f _).1 165 g = _
        rw [wi_1]
        by_cases z : g = f
        · rw [if_pos ⟨rfl, z⟩, z, hm]; rfl
        · rw [if_neg (fun q => z q.2)]; exact q5 g (by omega)) 0 (0, wa st 166 (va_cpy (st.1 165) (st.1 166) 0 0 8)) FU (by omega) ⟨rfl, q2.tr (FX_wa (fun j => by unfold scrX; omega)), fun turn ht => by
          show (wa st 166 _).1 151 turn = _
          rw [wa_1, if_neg (by decide)]; exact q3 turn ht, fun g hg => by
          show (wa st 166 _).1 166 g = _
          rw [wa_1, if_pos rfl, pk_cpy_in (by omega) (by omega), show 0 + (g - 0) = g by omega]
          exact q4 g hg, fun g hg => absurd hg (by omega)⟩ (FU_gt (by omega))
    obtain ⟨l6, s2⟩ := s
    obtain ⟨p1, p2, p3, p4, p5⟩ := hp
    dsimp only at p1 p2 p3 p4 p5
    subst p1
    have hs := p2.inv h
    have et : s2.2.2 0 9 = x.2.2 0 9 := by rw [p2.1]
    have hxs := hs.xt
    rw [et] at hxs
    refine ⟨(nI (N - i - 1) + (-1), s2), e.trans ?_, ?_, p2, p3, fun g hg => ?_⟩
    · show fX9_settle_73 (x.2.2 0 9) 20 (nI o) (nI N) (hX9_settle_50 (x.2.2 0 9) 20 (nI o) (nI N) n) _ _ _ s2 = _
      unfold fX9_settle_73
      rw [xF hw hxs, if_pos (yle _)]
    · show nI (N - i - 1) + (-1) = nI (N - (i + 1)) - 1
      rw [show N - (i + 1) = N - i - 1 by omega, Int32.sub_eq_add_neg]
    · rw [show (N - (i + 1)) = N - i - 1 by omega]
      exact p5 g hg) 0 (nI N - 1, st) FU (by omega) ⟨rfl, q2, q3, fun g hg => q4 g (by omega)⟩ (FU_gt (by omega))
  obtain ⟨l5, s2⟩ := s
  obtain ⟨p1, p2, p3, p4⟩ := hp
  dsimp only at p1 p2 p3 p4
  rw [Nat.sub_self] at p1 p4
  have hs := p2.inv h
  refine ⟨s2, e.trans ?_, p2⟩
  show fX9_settle_50 (x.2.2 0 9) 20 (nI o) (nI N) _ l5 s2 = _
  unfold fX9_settle_50
  have e20 : s2.1 20 2 = nI f := (p2.2 20 2 (by unfold scrX; omega)).trans h2
  rw [p1, if_pos (by decide), e20, gc_p (gI_nI (by omega) (by decide)), nI_clamp (by omega), p4 f hf]
theorem k8 {k : Nat} (hk : k < 16) : nI k - nI k / 8 * 8 = nI (k % 8) ∧ nI k / 8 = nI (k / 8) := ⟨pk_rem (d := 8) (by omega) (by decide) (by decide), pk_div (d := 8) (by omega) (by decide) (by decide)⟩
theorem Ydeal {x y : gS} (h : Inv x y) {o b f N : Nat} (ho : o < nT y) (hb : b < nT y) (hf : f < nF y) (hN : N < 9) (h3 : y.1 28 1 = nI b) (h2 : y.1 28 0 = nI f) : ∃ y', hX11_deal_29 (nI o) (nI N) FU 0 y = some (nI (dl y o b N 0 f), y') ∧ FY y y' := by
  have hw := h.wf
  have hF := nF9 hw
  obtain ⟨s, _, e, hp⟩ := lp (fun n (s : Int32 × gS) => hX11_deal_29 (nI o) (nI N) n s.1 s.2) 16 (fun i s => s.1 = nI i ∧ FY y s.2 ∧ ∀ k, k < i → s.2.1 35 k = nI (k % 8)) (by
    intro n i ⟨l3, st⟩ hi ⟨q1, q2, q3⟩
    dsimp only at q1 q2 q3
    subst q1
    show ∃ s', fX11_deal_29 (nI o) (nI N) (hX11_deal_29 (nI o) (nI N) n) (nI i) st = _ ∧ _
    unfold fX11_deal_29
    rw [if_neg (show ¬ 16 ≤ nI i from nI_ge (b := 16) (by omega) (by omega)), gc_p (gI_nI (by omega) (by decide)), nI_clamp (by omega), nI_s, (k8 hi).1]
    refine ⟨(_, _), rfl, rfl, q2.tr (FY_wi (by unfold scrY; omega)), fun k hk => ?_⟩
    show (wi st 35 i _).1 35 k = _
    rw [wi_1]
    by_cases z : k = i
    · rw [if_pos ⟨rfl, z⟩, z]
    · rw [if_neg (fun q => z q.2)]; exact q3 k (by omega)) 0 (0, y) FU (by omega) ⟨rfl, FY.rf y, fun k hk => absurd hk (by omega)⟩ (FU_gt (by omega))
  obtain ⟨l3, st⟩ := s
  obtain ⟨q1, q2, q3⟩ := hp
  dsimp only at q1 q2 q3
  subst q1
  have e2 : hX11_deal_29 (nI o) (nI N) FU 0 y = hX11_deal_53 (nI o) (nI N) FU 0 st := e.trans (by
    show fX11_deal_29 (nI o) (nI N) _ _ st = _
    unfold fX11_deal_29
    rw [if_pos (show (16 : Int32) ≤ nI 16 by decide)])
  rw [e2]
  obtain ⟨s, _, e, hp⟩ := lp (fun n (s : Int32 × gS) => hX11_deal_53 (nI o) (nI N) n s.1 s.2) N (fun i s => s.1 = nI i ∧ FY y s.2 ∧ ∀ turn g, turn < 2 → g < nF y → s.2.1 35 (8 * turn + g) = nI (dl y o b i turn g)) (by
    intro n i ⟨l3, st⟩ hi ⟨q1, q2, q3⟩
    dsimp only at q1 q2 q3
    subst q1
    show ∃ s', fX11_deal_53 (nI o) (nI N) (hX11_deal_53 (nI o) (nI N) n) (nI i) st = _ ∧ _
    unfold fX11_deal_53
    rw [if_neg (nle hi (by omega))]
    obtain ⟨s, m, e, hp⟩ := lp (fun n2 (s : Int32 × gS) => hX11_deal_61 (nI o) (nI N) (hX11_deal_53 (nI o) (nI N) n) n2 (nI i) s.1 s.2) 16 (fun k s => s.1 = nI k ∧ FY y s.2 ∧ (∀ turn g, turn < 2 → g < nF y → s.2.1 35 (8 * turn + g) = nI (dl y o b i turn g)) ∧ ∀ turn g, turn < 2 → g < nF y → 8 * turn + g < k → s.2.1 36 (8 * turn + g) = nI (dl y o b (i + 1) turn g)) (by
      intro n2 k ⟨l4, st⟩ hk ⟨q1, q2, q3, q4⟩
      dsimp only at q1 q2 q3 q4
      subst q1
      have hw2 := q2.wf hw
      have hF2 := q2.nF
      have hT2 := q2.nT
      show ∃ s', fX11_deal_61 (nI o) (nI N) (hX11_deal_53 (nI o) (nI N) n) (hX11_deal_61 (nI o) (nI N) (hX11_deal_53 (nI o) (nI N) n) n2) _ (nI k) st = _ ∧ _
      unfold fX11_deal_61 fX11_deal_105
      rw [if_neg (show ¬ 16 ≤ nI k from nI_ge (b := 16) (by omega) (by omega)), (k8 hk).1, (k8 hk).2, gc_p (gI_nI (by omega) (by decide)), nI_clamp (by omega), nI_s, eF hw2, hF2]
      by_cases z : k % 8 < nF y
      · rw [if_neg (nle z (by omega)), YsettledBy hw2 (o := o) (b := b) (turn := k / 8) (f := k % 8) (L := dl y o b i (1 - k / 8)) (by omega) ((q2.now 1).trans h3) (by rw [hT2]; exact ho) (by rw [hT2]; exact hb) (by rw [hF2]; exact z) (fun g hg => by rw [hF2] at hg ⊢; exact dl_lt hw o b i _ g hg) (fun g hg => by rw [hF2] at hg; exact q3 (1 - k / 8) g (by omega) hg), bd]
        dsimp only
        rw [gc_p (gI_nI (by omega) (by decide)), chs_eq q2, q2.nM]
        refine ⟨(_, _), rfl, rfl, q2.tr (FY_wi (by unfold scrY; omega)), fun turn g ht hg => ?_, fun turn g ht hg hk2 => ?_⟩
        · show (wi st 36 k _).1 35 _ = _
          rw [wi_ne (by decide)]; exact q3 turn g ht hg
        · show (wi st 36 k _).1 36 _ = _
          rw [wi_1]
          by_cases z2 : 8 * turn + g = k
          · rw [if_pos ⟨rfl, z2⟩, show k / 8 = turn by omega, show k % 8 = g by omega]; rfl
          · rw [if_neg (fun q => z2 q.2)]; exact q4 turn g ht hg (by omega)
      · rw [if_pos ((nI_le' (by omega) (by omega)).mpr (by omega))]
        refine ⟨(_, _), rfl, rfl, q2.tr (FY_wi (by unfold scrY; omega)), fun turn g ht hg => ?_, fun turn g ht hg hk2 => ?_⟩
        · show (wi st 36 k _).1 35 _ = _
          rw [wi_ne (by decide)]; exact q3 turn g ht hg
        · show (wi st 36 k _).1 36 _ = _
          rw [wi_1, if_neg (by omega)]; exact q4 turn g ht hg (by omega)) 0 (0, st) FU (by omega) ⟨rfl, q2, q3, fun turn g ht hg hk => absurd hk (by omega)⟩ (FU_gt (by omega))
    obtain ⟨l4, s2⟩ := s
    obtain ⟨p1, p2, p3, p4⟩ := hp
    dsimp only at p1 p2 p3 p4
    subst p1
    have e3 : hX11_deal_61 (nI o) (nI N) (hX11_deal_53 (nI o) (nI N) n) FU (nI i) 0 st = hX11_deal_115 (nI o) (nI N) (hX11_deal_53 (nI o) (nI N) n) FU (nI i) 0 s2 := e.trans (by
      show fX11_deal_61 (nI o) (nI N) (hX11_deal_53 (nI o) (nI N) n) _ _ _ s2 = _
      unfold fX11_deal_61
      rw [if_pos (show (16 : Int32) ≤ nI 16 by decide)])
    rw [e3]
    obtain ⟨s, m, e, hp⟩ := lp (fun n2 (s : Int32 × gS) => hX11_deal_115 (nI o) (nI N) (hX11_deal_53 (nI o) (nI N) n) n2 (nI i) s.1 s.2) 16 (fun k s => s.1 = nI k ∧ FY y s.2 ∧ (∀ k, s.2.1 36 k = s2.1 36 k) ∧ ∀ j, j < k → s.2.1 35 j = s2.1 36 j) (by
      intro n2 k ⟨l4, st⟩ hk ⟨q1, q2, q3, q4⟩
      dsimp only at q1 q2 q3 q4
      subst q1
      show ∃ s', fX11_deal_115 (nI o) (nI N) (hX11_deal_53 (nI o) (nI N) n) (hX11_deal_115 (nI o) (nI N) (hX11_deal_53 (nI o) (nI N) n) n2) _ (nI k) st = _ ∧ _
      unfold fX11_deal_115
      rw [if_neg (show ¬ 16 ≤ nI k from nI_ge (b := 16) (by omega) (by omega)), gc_p (gI_nI (by omega) (by decide)), gc_p (gI_nI (by omega) (by decide)), nI_clamp (by omega), nI_s]
      refine ⟨(_, _), rfl, rfl, q2.tr (FY_wi (by unfold scrY; omega)), fun j => ?_, fun j hj => ?_⟩
      · show (wi st 35 k _).1 36 j = _
        rw [wi_ne (by decide)]; exact q3 j
      · show (wi st 35 k _).1 35 j = _
        rw [wi_1]
        by_cases z : j = k
        · rw [if_pos ⟨rfl, z⟩, z]; exact q3 k
        · rw [if_neg (fun q => z q.2)]; exact q4 j (by omega)) 0 (0, s2) FU (by omega) ⟨rfl, p2, fun _ => rfl, fun j hj => absurd hj (by omega)⟩ (FU_gt (by omega))
    obtain ⟨l4, s3⟩ := s
    obtain ⟨g1, g2, g3, g4⟩ := hp
    dsimp only at g1 g2 g3 g4
    subst g1
    refine ⟨(nI (i + 1), s3), e.trans ?_, rfl, g2, fun turn g ht hg => ?_⟩
    · show fX11_deal_115 (nI o) (nI N) (hX11_deal_53 (nI o) (nI N) n) _ _ _ s3 = _
      unfold fX11_deal_115
      rw [if_pos (show (16 : Int32) ≤ nI 16 by decide), nI_s]
    · show s3.1 35 _ = _
      rw [g4 _ (by omega)]; exact p4 turn g ht hg (by omega)) 0 (0, st) FU (by omega) ⟨rfl, q2, fun turn g ht hg => by
        show st.1 35 _ = _
        rw [q3 _ (by omega), show (8 * turn + g) % 8 = g by omega]; rfl⟩ (FU_gt (by omega))
  obtain ⟨l3, s2⟩ := s
  obtain ⟨p1, p2, p3⟩ := hp
  dsimp only at p1 p2 p3
  subst p1
  refine ⟨s2, e.trans ?_, p2⟩
  show fX11_deal_53 (nI o) (nI N) _ _ s2 = _
  unfold fX11_deal_53
  have := p3 0 f (by decide) hf
  rw [show 8 * 0 + f = f by omega] at this
  rw [if_pos (yle _), gc_p (by decide), show (0 : Int32).toNatClampNeg = 0 from rfl, p2.now, h2, gc_p (gI_nI (by omega) (by decide)), nI_clamp (by omega), this]
theorem s_deal (a1 a2 : Int32) : sOK Inv (fX10_deal a1 a2) (fX11_deal a1 a2) := by
  intro x y h
  have hw := h.wf
  have hF := nF9 hw
  unfold fX10_deal fX11_deal
  rcases other_cases h a1 with ⟨e1, e2⟩ | ⟨o, b, ho, hb, rfl, hy, hx3, e1, e2⟩
  · rw [e1, e2, bd, bd]; exact ⟨_, _, _, rfl, rfl, h⟩
  rw [e1, e2, bd, bd]
  dsimp only
  rw [if_neg one0, if_neg one0, isIn_c, bd]
  dsimp only
  have hi : 8 < a2 ↔ ¬ a2 ≤ 8 := by
    rw [Int32.lt_iff_toInt_lt, Int32.le_iff_toInt_le]; omega
  by_cases h1 : a2 < 0
  · rw [if_pos h1, if_neg (show ¬ (¬ a2 < 0 ∧ ¬ 8 < a2) from fun q => q.1 h1)]
    exact ⟨_, _, _, rfl, rfl, h⟩
  rw [if_neg h1]
  by_cases h2 : a2 ≤ 8
  rotate_left
  · rw [if_neg h2, if_neg (show ¬ (¬ a2 < 0 ∧ ¬ 8 < a2) from fun q => q.2 (hi.mpr h2))]
    exact ⟨_, _, _, rfl, rfl, h⟩
  have h3 : ¬ 8 < a2 := fun z => hi.mp z h2
  rw [if_pos h2, if_pos (show (¬ a2 < 0 ∧ ¬ 8 < a2) from ⟨h1, h3⟩), if_neg one0, gc_p h.told8]
  have hN := rng (u := 8) (by decide) h1 h3
  obtain ⟨N, hn, rfl⟩ : ∃ n, n < 9 ∧ a2 = nI n := ⟨_, hN.2, hN.1⟩
  by_cases z : nF y = 0
  · have hv : x.1 20 2 = -1 := by
      rcases h.now.1.1 with w | w
      · exact h.now.2.1.trans w.2
      · have := w.2; omega
    have hq : fX9_settle (x.2.2 0 9) 20 (nI o) (nI N) x = some (-1, x) := by
      unfold fX9_settle
      rw [(hasFig x _ _).2 (fun q => q.1 (by rw [hv]; decide)), bd, if_pos rfl]
    rw [hq, bd, eF hw, z, if_pos nI0]
    exact ⟨_, _, _, rfl, rfl, h⟩
  · obtain ⟨f, hf, f1, f2⟩ := now_fig h (by omega)
    obtain ⟨x', g1, g2⟩ := Xsettle h ho hb hf hn hx3 f2
    obtain ⟨y', g3, g4⟩ := Ydeal h ho hb hf hn hy f1
    rw [g1, bd, eF hw, if_neg (fun q => z ((nI_eq0 (by omega)).mp q)), g3]
    exact ⟨_, _, _, rfl, rfl, Inv_fr h g2 g4⟩

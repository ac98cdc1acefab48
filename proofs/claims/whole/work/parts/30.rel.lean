/-! what ties the class's state to the reference's -/
/-- n persons stand in a row that is as the document has it -/
def VRow (n : Nat) (pp fp sp st : Int32) (kd th ft : Nat → Int32) : Prop :=
  n ≤ 8 ∧ pp = nI n ∧ (∃ v, 1 ≤ v ∧ v ≤ 9 ∧ fp = nI v) ∧ (∃ v, 1 ≤ v ∧ v ≤ 9 ∧ sp = nI v) ∧ (∃ v, v ≤ 20 ∧ st = nI v) ∧
  ∀ i, i < n → (∃ k, k ≤ 3 ∧ kd i = nI k) ∧ (∃ t, 1 ≤ t ∧ t ≤ 20 ∧ th i = nI t) ∧ (∃ f, 1 ≤ f ∧ f ≤ 9 ∧ ft i = nI f)
/-- the reference's row holds the same -/
def RR (pp fp sp st : Int32) (kd th ft : Nat → Int32) (row : Nat → Int32) : Prop :=
  ∃ n, VRow n pp fp sp st kd th ft ∧ row 0 = pp ∧ row 1 = fp ∧ row 2 = sp ∧ row 3 = st ∧ ∀ i, i < n → row (4 + 3 * i) = kd i ∧ row (5 + 3 * i) = th i ∧ row (6 + 3 * i) = ft i
def PileR (N : Nat) (height : Int32) (pf : Nat → Option Nat) (ad : Nat → Nat) (pp fp sp st : Nat → Int32) (kd th ft : Nat → Nat → Int32) (cnt : Int32) (arr : Nat → Int32) : Prop :=
  (∀ j, j < N → pf j = some (ad j)) ∧ ∃ h, h ≤ N ∧ height = nI h ∧ cnt = nI h ∧ ∀ j, j < h → RR (pp j) (fp j) (sp j) (st j) (kd j) (th j) (ft j) (fun k => arr (28 * j + k))
def TextR (len : Int32) (lt : Nat → Int32) (mlen : Int32) (mt : Nat → Int32) : Prop :=
  ∃ t, t ≤ 200 ∧ len = nI t ∧ mlen = nI t ∧ ∀ j, j < t → ∃ c, 32 ≤ c ∧ c ≤ 126 ∧ lt j = nI c ∧ mt j = nI c
def TapeR (len : Int32) (who wh : Nat → Int32) (mlen : Int32) (mwho mwh : Nat → Int32) : Prop :=
  ∃ q, q ≤ 8 ∧ len = nI q ∧ mlen = nI q ∧ ∀ j, j < q → who j = mwho j ∧ wh j = mwh j
def Rel (x_text_length : Int32) (x_text_letters : Nat → Int32) (x_shop_people : Int32) (x_shop_firstPace : Int32) (x_shop_secondPace : Int32) (x_shop_steps : Int32) (x_shop_kind : Nat → Int32) (x_shop_things : Nat → Int32) (x_shop_feet : Nat → Int32) (x_past_height : Int32) (x_past_pf : Nat → Option Nat) (x_past_ad : Nat → Nat) (x_past_pp : Nat → Int32) (x_past_fp : Nat → Int32) (x_past_sp : Nat → Int32) (x_past_st : Nat → Int32) (x_past_kd : Nat → Nat → Int32) (x_past_th : Nat → Nat → Int32) (x_past_ft : Nat → Nat → Int32) (x_shelf_height : Int32) (x_shelf_pf : Nat → Option Nat) (x_shelf_ad : Nat → Nat) (x_shelf_pp : Nat → Int32) (x_shelf_fp : Nat → Int32) (x_shelf_sp : Nat → Int32) (x_shelf_st : Nat → Int32) (x_shelf_kd : Nat → Nat → Int32) (x_shelf_th : Nat → Nat → Int32) (x_shelf_ft : Nat → Nat → Int32) (x_roll_length : Int32) (x_roll_who : Nat → Int32) (x_roll_where : Nat → Int32) (m_letters : Int32) (m_text : Nat → Int32) (m_row : Nat → Int32) (m_undos : Int32) (m_undone : Nat → Int32) (m_taped : Int32) (m_tapedWho : Nat → Int32) (m_tapedTill : Nat → Int32) (m_keeps : Int32) (m_kept : Nat → Int32) : Prop :=
  TextR x_text_length x_text_letters m_letters m_text ∧ RR x_shop_people x_shop_firstPace x_shop_secondPace x_shop_steps x_shop_kind x_shop_things x_shop_feet m_row ∧ PileR 8 x_past_height x_past_pf x_past_ad x_past_pp x_past_fp x_past_sp x_past_st x_past_kd x_past_th x_past_ft m_undos m_undone ∧ PileR 2 x_shelf_height x_shelf_pf x_shelf_ad x_shelf_pp x_shelf_fp x_shelf_sp x_shelf_st x_shelf_kd x_shelf_th x_shelf_ft m_keeps m_kept ∧ TapeR x_roll_length x_roll_who x_roll_where m_taped m_tapedWho m_tapedTill

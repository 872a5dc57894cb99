/-! a method of the small machine is a method of the real one; behind a call -/
def zrm1 (d y : Nat) : Room := { frames := d + 8, cells := zMc y, slots := zMs y, locals := 64 * d + 150 }
def zPc (D : va_G) (z0 : Nat) (ε : Nat × (Nat → Int32)) (as : List Value) (ad : Nat → Nat) (ca : Nat → ClassId) (tys : List (ClassId × FieldType)) (h : zH) : Array Value → State → Prop := va_Pc (as.map (zv ad)) (fun U => zEnv z0 ε ad U U.heap ∧ zWo D z0 ad ca tys h U U.heap)
theorem zlg_len : ∀ (vs : List Value), vs.all (fun v => Nat.beq v.category 1) = true → (lg_sl vs).length = vs.length
  | [], _ => rfl
  | v :: r, h => by
    obtain ⟨h1, h2⟩ := zan (show (Nat.beq v.category 1 && r.all (fun v => Nat.beq v.category 1)) = true from h)
    have e := zlg_len r h2
    have hc : v.category = 1 := Nat.eq_of_beq_eq_true h1
    unfold lg_sl at e ⊢
    rw [List.flatMap_cons, List.length_append, e, if_neg (by rw [hc]; decide)]
    simp [Nat.add_comm]
theorem zyk_ok {y : Nat} (hy : y < 235) : plainName (zY y).cls = true ∧ (zY y).cls = zRn (zcl y) ∧ ((zY y).cls ≠ "java/lang/invoke/MethodHandle" ∧ (zY y).cls ≠ "java/lang/invoke/VarHandle") ∧ Jvm.Cond.initialized (zRn (zcl y)) ∈ zWd ∧ zML y ≤ 45 := by
  have q := zall zyk_all hy
  unfold zyk at q
  obtain ⟨q1, q2⟩ := zan q
  obtain ⟨q3, q4⟩ := zan q1
  obtain ⟨q5, q6⟩ := zan q2
  obtain ⟨q7, q8⟩ := zan q5
  obtain ⟨q9, q10⟩ := zan q6
  exact ⟨q3, of_decide_eq_true q4, of_decide_eq_true q7, zgd_in q8, Nat.le_of_ble_eq_true q9⟩
theorem zmet_body {D : va_G} {z0 : Nat} {ε : Nat × (Nat → Int32)} {ac : Bool} {d y : Nat} {h : zH} {Q : zQ} {as : List Value} {ad : Nat → Nat} {ca : Nat → ClassId} {tys : List (ClassId × FieldType)} {ln : Launch} (hst : ln.stackTraces = false) (hy : y < 235) (hck : (as.all (fun v => Nat.beq v.category 1) && Nat.ble as.length (zML y)) = true) (hs : zSd D z0 ε ac d y 0 (lv_args 0 as) [] h 0 0 Q)
    {p : Program} {e : Env} {s : State} {m : MethodId} {args : Array Value} {below : List Frame} {meth : Method} {c : Code} {s₁ : State} (B : BodyLoose p ln (zY y) (headSpec (zcw y :: zWd) (zrm1 d y)) (zC y) (zML y) (zRt y) e s m args below meth c s₁) (hml : c.maxLocals = zML y) (hxt : c.exceptionTable.toList = tableOf (zhn y)) (hv : zPc D z0 ε as ad ca tys h args s) :
    W p ln e (headSpec (zcw y :: zWd) (zrm1 d y)).room s m args below meth c s.heap [] 0 0 (vx_MQ below (zQc D z0 ac h.1.length ad ca tys Q) (zXC D z0 h.1.length ad ca tys Q) args s (zMc y) (zMs y) (zA z0)) (entryFrame m args (zML y)) := by
  obtain ⟨rfl, hE, hw⟩ := hv
  obtain ⟨k1, k2, k3, k4, k5⟩ := zyk_ok hy
  obtain ⟨h1, h2⟩ := zan hck
  have hts := atoms_spec (ws := zcw y :: zWd) B.pre
  have hown : s.vm.findClass (zY y).cls = some m.cls := findClass_of_methodNamed B.named
  rw [k2] at hown
  have h1' : (as.map (zv ad)).all (fun v => Nat.beq v.category 1) = true := by
    rw [List.all_map]
    exact (List.all_congr rfl (fun v => by show Nat.beq (zv ad v).category 1 = _; rw [zv_cat])).trans h1
  have hl := lv_entry (as.map (zv ad)) (n := zML y) (by rw [zlg_len _ h1', List.length_map]; exact Nat.le_of_ble_eq_true h2)
  rw [zvl_args] at hl
  rw [lg_entry_eq]
  exact hs ln p e (zrm1 d y) s m _ below meth c ad ca tys h.1.length ad ca tys s.heap [] _ ⟨⟨B.exec, B.bytes, B.returns, hml, hown⟩, fun w hw => hts w (List.mem_cons_of_mem _ hw), ⟨B.notSynchronized, (name_of_methodNamed B.named B.method).1, hst⟩, hxt, ⟨Nat.le_refl _, Nat.le_refl _, rfl, rfl⟩, hy⟩ hE hw va_S.rf hl ⟨Nat.le_refl _, Nat.zero_le _, Nat.zero_le _⟩ ⟨fun _ _ => rfl, fun _ => ⟨rfl, rfl, rfl⟩⟩
theorem zmet {D : va_G} {z0 : Nat} {ε : Nat × (Nat → Int32)} {ac : Bool} {d y : Nat} {h : zH} {Q : zQ} {as : List Value} (ad : Nat → Nat) (ca : Nat → ClassId) (tys : List (ClassId × FieldType)) {ln : Launch} (hst : ln.stackTraces = false) (hy : y < 235) (hck : (as.all (fun v => Nat.beq v.category 1) && Nat.ble as.length (zML y)) = true) (hs : zSd D z0 ε ac d y 0 (lv_args 0 as) [] h 0 0 Q) :
    vx_Met ln (zY y) (zcw y :: zWd) (zrm1 d y) (zPc D z0 ε as ad ca tys h) (zQc D z0 ac h.1.length ad ca tys Q) (zXC D z0 h.1.length ad ca tys Q) (zMc y) (zMs y) (zA z0) := by
  have hpl := (zyk_ok hy).1
  cases hz : zhn y with
  | nil =>
    refine vx_ofW (cc := zC y) (maxL := zML y) (ret := zRt y) hpl (ws' := zWd) (by unfold zcw; rw [hz]) ?_
    intro p e s m args below meth c s₁ B hml hx0 hv
    refine zmet_body hst hy hck hs B hml ?_ hv
    rw [hz]
    exact List.eq_nil_iff_forall_not_mem.mpr hx0
  | cons q r =>
    refine vx_ofWH (cc := zC y) (maxL := zML y) (ret := zRt y) (hh := zhn y) hpl (ws' := zWd) (by unfold zcw; rw [hz]) ?_
    intro p e s m args below meth c s₁ B hml hv
    refine zmet_body hst hy hck hs B hml ?_ hv
    have hts := atoms_spec (ws := zcw y :: zWd) B.pre
    have h9 := hts _ List.mem_cons_self
    unfold zcw at h9
    rw [hz] at h9
    rw [hz]
    exact vx_table (x := zY y) B h9
/-- a method that never throws -/
theorem zmet_of {l : Launch} {y : MethodName} {ws : List Jvm.Cond} {rm : Room} {Pc : Array Value → State → Prop} {Qc : Array Value → State → Outcome → State → Prop} {XC : String → State → State → Prop} {mc ms : Nat} {free : Addr → Prop} (h : vx_Met l y ws rm Pc Qc XC mc ms free) (hx : ∀ E s t, ¬ XC E s t) : Met l y ws rm Pc Qc mc ms free := by
  intro p e ha hc hk s m args below hf happ hP ht
  obtain ⟨k, o, h1, h2, h3, hQ⟩ := h p e ha hc hk s m args below hf happ hP ht
  refine ⟨k, o, h1, h2, h3, ?_⟩
  rcases hQ with q | ⟨q, ho, E, ce, L, hX, q2⟩
  · exact q
  · exact absurd hX (hx _ _ _)
theorem zrun_of {p : Program} {l : Launch} {e : Env} {R : Room} {s : State} {m : MethodId} {args : Array Value} {below : List Frame} {meth : Method} {c : Code} {H : Heap} {locs : List Loc} {cells slots mc ms : Nat} {g : JFrame} {rest : List Value} {Qa : State → Outcome → State → Prop} {XC : String → State → State → Prop} {free : Addr → Prop} (h : va_Run p l e R s m args below meth c H locs cells slots mc ms g rest Qa free) : vx_Run p l e R s m args below meth c H locs cells slots mc ms g rest Qa XC free := fun T hT X => Or.inl (h T hT X)
/-- the handlers -/
def zhw (y : Nat) : Bool := (zhn y).all (fun q => (decide (zcl y = 8) && Nat.ble 1 q.2.2.2) && (Nat.ble (zhe q.2.2.2 + 1) 4 && decide (Jvm.Cond.classLink RL q.2.2.2 (zEx (zhe q.2.2.2)) ∈ zWd)))
theorem zhw_all : (List.range 235).all zhw = true := by decide +kernel
theorem zhw_ok {y : Nat} (hy : y < 235) {q : Nat × Nat × Nat × Nat} (hq : q ∈ zhn y) : zcl y = 8 ∧ q.2.2.2 ≠ 0 ∧ zhe q.2.2.2 < 4 ∧ Jvm.Cond.classLink RL q.2.2.2 (zEx (zhe q.2.2.2)) ∈ zWd := by
  have h := List.all_eq_true.mp (zall zhw_all hy) q hq
  obtain ⟨h1, h2⟩ := zan h
  obtain ⟨h3, h4⟩ := zan h1
  obtain ⟨h5, h6⟩ := zan h2
  exact ⟨of_decide_eq_true h3, by have := Nat.le_of_ble_eq_true h4; omega, Nat.le_of_ble_eq_true h5, of_decide_eq_true h6⟩
theorem zcov {a b c d pc : Nat} : covers (⟨a, b, c, d⟩ : ExceptionTableEntry) pc = (Nat.ble a pc && Nat.ble (pc + 1) b) := by
  show (decide (a ≤ pc) && decide (pc < b)) = _
  apply Bool.eq_iff_iff.mpr
  simp [Nat.succ_le_iff]
theorem zct_none {y : Nat} (hy : y < 235) {pc x : Nat} {s : State} {args : Array Value} (hts : ∀ w ∈ zWd, w.before args s = true) (hx : x < 4) (hnc : ∀ a b, a < 4 → b < 4 → a ≠ b → va_Nc (zEx a) (zEx b) s) : ∀ (L : List (Nat × Nat × Nat × Nat)), (∀ q ∈ L, q ∈ zhn y) → zct L pc x = none → ∀ z ∈ tableOf L, covers z pc = false ∨ (z.catchType ≠ 0 ∧ ∃ nm : String, (Jvm.Cond.classLink (zRn (zcl y)) z.catchType nm).before args s = true ∧ va_Nc (zEx x) nm s)
  | [], _, _, z, hz => absurd hz List.not_mem_nil
  | q :: r, hL, h, z, hz => by
    unfold zct at h
    have hq := zhw_ok hy (hL q List.mem_cons_self)
    cases hc : ((Nat.ble q.1 pc && Nat.ble (pc + 1) q.2.1) && Nat.beq (zhe q.2.2.2) x) with
    | true => rw [hc] at h; cases h
    | false =>
      rw [hc] at h
      rcases List.mem_cons.mp (show z ∈ (⟨q.1, q.2.1, q.2.2.1, q.2.2.2⟩ : ExceptionTableEntry) :: tableOf r from hz) with rfl | hz2
      · rcases Bool.and_eq_false_iff.mp hc with g | g
        · left
          rw [zcov]
          exact g
        · right
          refine ⟨hq.2.1, zEx (zhe q.2.2.2), ?_, hnc _ _ hx hq.2.2.1 (fun z => ?_)⟩
          · rw [hq.1]; exact hts _ hq.2.2.2
          · rw [← z] at g
            rw [Nat.beq_refl] at g
            cases g
      · exact zct_none hy hts hx hnc r (fun z hz => hL z (List.mem_cons_of_mem _ hz)) h z hz2
theorem zct_some {y : Nat} (hy : y < 235) {pc x hp : Nat} {s : State} {args : Array Value} (hts : ∀ w ∈ zWd, w.before args s = true) (hx : x < 4) (hnc : ∀ a b, a < 4 → b < 4 → a ≠ b → va_Nc (zEx a) (zEx b) s) : ∀ (L : List (Nat × Nat × Nat × Nat)), (∀ q ∈ L, q ∈ zhn y) → zct L pc x = some hp → ∃ (pre : List ExceptionTableEntry) (z : ExceptionTableEntry) (suf : List ExceptionTableEntry), tableOf L = pre ++ z :: suf ∧ (∀ z ∈ pre, covers z pc = false ∨ (z.catchType ≠ 0 ∧ ∃ nm : String, (Jvm.Cond.classLink (zRn (zcl y)) z.catchType nm).before args s = true ∧ va_Nc (zEx x) nm s)) ∧ covers z pc = true ∧ z.catchType ≠ 0 ∧ (Jvm.Cond.classLink (zRn (zcl y)) z.catchType (zEx x)).before args s = true ∧ z.handlerPc = hp
  | [], _, h => by cases h
  | q :: r, hL, h => by
    unfold zct at h
    have hq := zhw_ok hy (hL q List.mem_cons_self)
    cases hc : ((Nat.ble q.1 pc && Nat.ble (pc + 1) q.2.1) && Nat.beq (zhe q.2.2.2) x) with
    | true =>
      rw [hc] at h
      cases h
      obtain ⟨g1, g2⟩ := zan hc
      refine ⟨[], ⟨q.1, q.2.1, q.2.2.1, q.2.2.2⟩, tableOf r, rfl, fun z hz => absurd hz List.not_mem_nil, by rw [zcov]; exact g1, hq.2.1, ?_, rfl⟩
      rw [hq.1, ← Nat.eq_of_beq_eq_true g2]
      exact hts _ hq.2.2.2
    | false =>
      rw [hc] at h
      obtain ⟨pre, z, suf, h1, h2, h3⟩ := zct_some hy hts hx hnc r (fun z hz => hL z (List.mem_cons_of_mem _ hz)) h
      refine ⟨⟨q.1, q.2.1, q.2.2.1, q.2.2.2⟩ :: pre, z, suf, by show _ :: tableOf r = _; rw [h1]; rfl, fun w hw => ?_, h3⟩
      rcases List.mem_cons.mp hw with rfl | hw
      · rcases Bool.and_eq_false_iff.mp hc with g | g
        · left
          rw [zcov]
          exact g
        · right
          refine ⟨hq.2.1, zEx (zhe q.2.2.2), ?_, hnc _ _ hx hq.2.2.1 (fun z => ?_)⟩
          · rw [hq.1]; exact hts _ hq.2.2.2
          · rw [← z] at g
            rw [Nat.beq_refl] at g
            cases g
      · exact h2 w hw
theorem zca_ok {y hp pc' k : Nat} (h : zca y hp = some (pc', k)) : (∃ k4 : Fin 4, k4.val = k ∧ zI y hp = some (.astore_n k4, 1) ∧ pc' = hp + 1) ∨ (zI y hp = some (.astore k, 2) ∧ pc' = hp + 2) := by
  unfold zca at h
  split at h
  · rename_i k4 hi
    cases h
    exact Or.inl ⟨k4, rfl, hi, rfl⟩
  · rename_i k4 hi
    cases h
    exact Or.inr ⟨hi, rfl⟩
  · cases h
theorem zrm_has {ad : Nat → Nat} {ls : Array Slot} {n : Nat} {l : zL} {i : Nat} {v : Value} (h : lv_has ls n ((i, v) :: (zvl ad l).filter (fun q => !(q.1 == i) && !(q.1 + 1 == i && q.2.category == 2)))) : lv_has ls n (zvl ad (zrm l i)) := by
  refine zhas_mono h (fun q hq => ?_)
  obtain ⟨z, hz, rfl⟩ := List.mem_map.mp hq
  obtain ⟨h1, h2⟩ := List.mem_filter.mp hz
  exact List.mem_cons_of_mem _ (List.mem_filter.mpr ⟨List.mem_map.mpr ⟨z, h1, rfl⟩, by dsimp only; rw [zv_cat]; exact h2⟩)
section
variable {D : va_G} {z0 : Nat} {ε : Nat × (Nat → Int32)} {al ac nx : Bool} {d y y' pc : Nat} {l : zL} {r : List Value} {h : zH} {uc us : Nat} {Q : zQ}
variable {ln : Launch} {p : Program} {e : Env} {R : Room} {s : State} {m : MethodId} {args aa : Array Value} {below : List Frame} {meth : Method} {c : Code} {ad : Nat → Nat} {ca : Nat → ClassId} {tys : List (ClassId × FieldType)} {n0 : Nat} {ad0 : Nat → Nat} {ca0 : Nat → ClassId} {tys0 : List (ClassId × FieldType)} {H : Heap} {locs : List Loc} {ls : Array Slot}
set_option maxHeartbeats 4000000 in
theorem zs_back {st0 : List Value} (hac : al = false → ac = false) (hF : zFr ln p s m args meth c R d y) (hE : zEnv z0 ε ad s s.heap) (hS : va_S (zA z0) s.heap H locs) (hl : lv_has ls (zML y) (zvl ad l)) (hn : n0 ≤ h.1.length) (hc1 : uc + zMc y' ≤ zMc y) (hc2 : us + zMs y' ≤ zMs y) (hag : zAg al n0 ad0 ad ca0 ca tys0 tys)
    (hr : vx_Run p ln e R s m args below meth c H locs uc us (zMc y') (zMs y') (F0 m pc ls st0) (r.map (zv ad)) (zQc D z0 ac h.1.length ad ca tys (zbk (zSd D z0 ε) al nx d y pc l r h.1.length (uc + zMc y') (us + zMs y') Q) aa) (zXC D z0 h.1.length ad ca tys (zbk (zSd D z0 ε) al nx d y pc l r h.1.length (uc + zMc y') (us + zMs y') Q)) (zA z0)) :
    W p ln e R s m args below meth c H locs uc us (vx_MQ below (zQc D z0 al n0 ad0 ca0 tys0 Q) (zXC D z0 n0 ad0 ca0 tys0 Q) args s (zMc y) (zMs y) (zA z0)) (F0 m pc ls st0) := by
  obtain ⟨⟨hx, hb, hrt, hml, hown⟩, hts, ⟨hlk, hnm, hst⟩, hxt, hroom, hy9⟩ := id hF
  intro T hT X
  rcases hr T hT X with ⟨v, st₀, t, T', L, h0, X', hL, e1, e2, ⟨⟨v', h', ad', ca', tys', ov, hQ, hn', hag', hwo⟩, hFF⟩, stp⟩ | ⟨q, st₀, t, T', L, E, ce, h0, X', hL, e1, e2, ⟨⟨x, h', hEx, hx4, hQ, hn', hwo⟩, hFF⟩, hce, hcv, hcl, stp⟩
  · cases ov
    obtain ⟨k1, k2, k3⟩ := vx_keep h0 e1 hS (fun _ _ z => z) (fun _ z => z) hL hFF
    obtain ⟨hv1, hv2⟩ := hQ
    have hvm : s.vm.Alike t.vm := by rw [← e2]; exact X'.warmed.alike
    have hls : zvl ad' l = zvl ad l ∧ r.map (zv ad') = r.map (zv ad) := by
      cases al with
      | false =>
        rw [(hag'.2 (hac rfl)).1]
        exact ⟨rfl, rfl⟩
      | true => exact zv_oks hag'.1 hv1
    obtain ⟨t2, a1, b1⟩ := hv2 ln p e R s m args below meth c ad' ca' tys' n0 ad0 ca0 tys0 T'.heap (locs ++ L) ls hF (hE.ad (fun k hk => hag'.1 k (Or.inr hk))) (by rw [e1]; exact zWo.moved hvm.symm hwo) k3 (by rw [hls.1]; exact hl) ⟨Nat.le_trans hn hn', hc1, hc2⟩ ⟨fun k hk => by rw [hag'.1 k (hk.imp (fun q => Nat.lt_of_lt_of_le q hn) id)]; exact hag.1 k hk, fun hal => by
      obtain ⟨a1, a2, a3⟩ := hag'.2 (hac hal)
      obtain ⟨b1, b2, b3⟩ := hag.2 hal
      exact ⟨a1.trans b1, a2.trans b2, a3.trans b3⟩⟩ T' rfl X'
    refine ⟨t2, stp t2 ?_, b1⟩
    have e3 : (v'.toList ++ r).map (zv ad') = (v'.map (zv ad')).toList ++ r.map (zv ad) := by
      rw [List.map_append, hls.2]
      cases v' <;> rfl
    rw [e3] at a1
    exact a1
  · obtain ⟨k1, k2, k3⟩ := vx_keep h0 e1 hS (fun _ _ z => z) (fun _ z => z) hL hFF
    subst hEx
    obtain ⟨⟨hal, hnx⟩, hQ⟩ := hQ
    subst hal
    have hvm : s.vm.Alike t.vm := by rw [← e2]; exact X'.warmed.alike
    obtain ⟨b1, b2, b3⟩ := hag.2 rfl
    subst b1
    subst b2
    subst b3
    have hnc := hE.2.2.2.1.1
    have hcast := hE.2.2.2.1.2.1 x hx4
    have hcell : T'.heap[q]? = some ce := by rw [e1]; exact hce
    have hvx : vx_W p ln e R s m args below meth c T'.heap (locs ++ L) (uc + zMc y') (us + zMs y') (vx_MQ below (zQc D z0 false n0 ad ca tys Q) (zXC D z0 n0 ad ca tys Q) args s (zMc y) (zMs y) (zA z0)) (F0 m pc ls (r.map (zv ad))) q := by
      cases hz : zct (zhn y) pc x with
      | none =>
        rw [hz] at hQ
        exact vx_outP hown hlk (by rw [hxt]; exact zct_none hy9 hts hx4 hnc _ (fun _ z => z) hz) hcell hcv hcl (fun t2 ht2 hA2 => ⟨⟨x, h', rfl, hx4, hQ, Nat.le_trans hn hn', by rw [ht2, e1]; exact zWo.moved (hvm.symm.trans hA2) hwo⟩, k3.F ht2⟩) k3.2.2 hc1 hc2
      | some hp =>
        rw [hz] at hQ
        dsimp only at hQ
        obtain ⟨pre, z, suf, g1, g2, g3, g4, g5, g6⟩ := zct_some hy9 hts hx4 hnc _ (fun _ z => z) hz
        refine vx_catch hown pre z suf (hxt.trans g1) g2 g3 g4 g5 (va_Nw.use rfl hcast) hcell hcv hcl ?_
        rw [g6]
        cases hz2 : zca y hp with
        | none =>
          rw [hz2] at hQ
          exact hQ.elim
        | some w =>
          obtain ⟨pc', k⟩ := w
          rw [hz2] at hQ
          dsimp only at hQ
          rcases zca_ok hz2 with ⟨k4, rfl, hi, rfl⟩ | ⟨hi, rfl⟩
          · have hd := zI_ok y _ _ hi
            refine lv_astore_n hx hb hd rfl hl hQ.1 rfl (fun ls' hl' => ?_)
            exact hQ.2 ln p e R s m args below meth c ad ca tys n0 ad ca tys T'.heap (locs ++ L) ls' hF hE (by rw [e1]; exact zWo.moved hvm.symm hwo) k3 (zrm_has hl') ⟨Nat.le_trans hn hn', hc1, hc2⟩ ⟨fun _ _ => rfl, fun _ => ⟨rfl, rfl, rfl⟩⟩
          · have hd := zI_ok y _ _ hi
            refine lv_astore hx hb hd hl hQ.1 rfl (fun ls' hl' => ?_)
            exact hQ.2 ln p e R s m args below meth c ad ca tys n0 ad ca tys T'.heap (locs ++ L) ls' hF hE (by rw [e1]; exact zWo.moved hvm.symm hwo) k3 (zrm_has hl') ⟨Nat.le_trans hn hn', hc1, hc2⟩ ⟨fun _ _ => rfl, fun _ => ⟨rfl, rfl, rfl⟩⟩
    obtain ⟨t2, a1, b1⟩ := hvx T' rfl X'
    exact ⟨t2, stp.trans a1, b1⟩
end

/-- a call's memory, with the script's row as it was -/
def ax_fo (m m' : ax_M) : ax_M := (m'.1, (fun o j => if o = 0 then m.2.1 0 j else m'.2.1 o j), m'.2.2)
theorem ax_met_force {l : Launch} {d y : Nat} {as : List ax_V} {r : Option ax_V} {m m' : ax_M} (h : ax_Met l d y as m r m') : ax_Met l d y as m r (ax_fo m m') := by
  intro G
  refine ax_met_imp (h G) (fun a s hp => hp) (fun a s o t hp hq => ⟨hq.1, ?_⟩)
  have g := hp.2.2.1.2.2.2.2.2.2
  have g2 := hq.2.2.2.2.2.2.2
  have hF := hq.2.2.2.2.2.2.1
  refine ax_Rep_to (m' := ax_fo m m') hq.2 rfl rfl rfl rfl rfl (fun o ho => funext fun j => if_neg (by omega)) rfl (fun _ _ _ _ _ _ => rfl) ?_ (fun oo j hoo => ?_)
  · rcases hF with z | z
    · exact .inl z
    · exact .inr (fun o k ho => (z o k ho).2.2)
  · show (if oo = 0 then m.2.1 0 j else m'.2.1 oo j) = _
    by_cases z : oo = 0
    · rw [if_pos z, z]; exact g 0 j (by omega)
    · rw [if_neg z]; exact g2 oo j hoo
theorem sw_RR.off0 {I I' : ax_I} {L : ax_J} (h : sw_RR I L) (hf : ∀ a, ¬ a = 0 → I' a = I a) : sw_RR I' L :=
  h.same ⟨fun a _ => hf a (by omega), fun b _ => by rw [hf _ (by omega)], by rw [hf _ (by omega)], by rw [hf _ (by omega)], by rw [hf _ (by omega)], by rw [hf _ (by omega)], by rw [hf _ (by omega)], by rw [hf _ (by omega)], by rw [hf _ (by omega)]⟩

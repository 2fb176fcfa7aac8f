/-- a PROGRAM that is plain -/
def PLN (B R P C : Int) (rs op tg lf rt ek eu g1 g2 ps pr fs : Int → Int) : Prop := (1 ≤ B ∧ P = 0 ∧ C = 0) ∧ MS B R rs ∧ MS B 0 fs ∧ HUI op tg R ∧ HGP ek g1 g2 B ∧ PL ek g1 g2 B ps pr ∧ ENF ek eu g1 g2 B ∧ RWF op lf rt R
/-- what an object keeps over all calls of its PROGRAM: plain, in SSA, or in colours -/
def OBJ (form B R P C na : Int) (rs op tg lf rt ek eu g1 g2 ps pr fs pt as ar : Int → Int) : Prop := (form = 0 → PLN B R P C rs op tg lf rt ek eu g1 g2 ps pr fs) ∧ (form = 1 → SSV B R P C rs op tg lf rt ek eu g1 g2 ps pr fs pt as ar ∧ C ≤ na) ∧ (form = 2 → CGD B R P na rs op tg ek g1 g2 ps pr fs pt as ∧ ENF ek eu g1 g2 B ∧ RWF op lf rt R ∧ ARF B fs ps pr as ar)
/-- what is known of its ways -/
def KNW (known B rd : Int) (ek g1 g2 ps pr po bp id pl od sp : Int → Int) : Prop := known = 1 → FW ek g1 g2 B po bp rd ∧ DT ek g1 g2 B ps pr po bp rd id ∧ OD B po id pl od rd ∧ SPI B rd id od sp 0
section OBJV
variable {form B R P C na : Int} {rs op tg lf rt ek eu g1 g2 ps pr fs pt as ar : Int → Int}
/-- a new object has no PROGRAM -/
theorem OBJ.new : OBJ (-1) B R P C na rs op tg lf rt ek eu g1 g2 ps pr fs pt as ar := ⟨fun e => by omega, fun e => by omega, fun e => by omega⟩
theorem KNW.new {B rd : Int} {ek g1 g2 ps pr po bp id pl od sp : Int → Int} : KNW 0 B rd ek g1 g2 ps pr po bp id pl od sp := fun e => by omega
/-- text: X11_textL -/
theorem OBJ.text (f : -1 ≤ form ∧ form ≤ 0) (h : form = 0 → (1 ≤ B ∧ P = 0) ∧ MS B R rs ∧ MS B 0 fs ∧ HUI op tg R ∧ HGP ek g1 g2 B ∧ PL ek g1 g2 B ps pr ∧ ENF ek eu g1 g2 B ∧ RWF op lf rt R ∧ C = 0) : OBJ form B R P C na rs op tg lf rt ek eu g1 g2 ps pr fs pt as ar :=
  ⟨fun e => by obtain ⟨⟨a, b⟩, c, d, e', f', g', i, j, k⟩ := h e; exact ⟨⟨a, b, k⟩, c, d, e', f', g', i, j⟩, fun e => by omega, fun e => by omega⟩
/-- plain: X11_plainL -/
theorem OBJ.plain (h : (1 ≤ B ∧ P = 0) ∧ MS B R rs ∧ MS B 0 fs ∧ HUI op tg R ∧ HGP ek g1 g2 B ∧ PL ek g1 g2 B ps pr ∧ ENF ek eu g1 g2 B ∧ RWF op lf rt R ∧ C = 0) : OBJ 0 B R P C na rs op tg lf rt ek eu g1 g2 ps pr fs pt as ar := OBJ.text (by omega) (fun _ => h)
/-- ssa and passes 1 to 6: X11_ssaL, X11_pass1, X11_pass2M, X11_pass3L, X11_pass4L, X11_pass5, X11_pass6L -/
theorem OBJ.ssa (h : SSV B R P C rs op tg lf rt ek eu g1 g2 ps pr fs pt as ar) (c : C ≤ na) : OBJ 1 B R P C na rs op tg lf rt ek eu g1 g2 ps pr fs pt as ar := ⟨fun e => by omega, fun _ => ⟨h, c⟩, fun e => by omega⟩
/-- pass 7: X11_pass7M -/
theorem OBJ.painted (h : CGD B R P na rs op tg ek g1 g2 ps pr fs pt as ∧ ENF ek eu g1 g2 B ∧ RWF op lf rt R ∧ ARF B fs ps pr as ar) : OBJ 2 B R P C na rs op tg lf rt ek eu g1 g2 ps pr fs pt as ar := ⟨fun e => by omega, fun e => by omega, fun _ => h⟩
/-- what run, list, count, block ask (HCG) -/
theorem OBJ.cgd (h : OBJ form B R P C na rs op tg lf rt ek eu g1 g2 ps pr fs pt as ar) (r : form ≤ 2) : 0 ≤ form → CGD B R P na rs op tg ek g1 g2 ps pr fs pt as := fun f => by
  by_cases e : form = 0
  · obtain ⟨⟨a, b, _⟩, c, d, e', f', g', i, j⟩ := h.1 e
    rw [b]; exact CGD.plain a c d e' f' g'
  · by_cases e1 : form = 1
    · exact (h.2.1 e1).1.1.le (h.2.1 e1).2
    · exact (h.2.2 (by omega)).1
/-- what ssa asks beside (X11_ssaL's hX_f0) -/
theorem OBJ.pln (h : OBJ form B R P C na rs op tg lf rt ek eu g1 g2 ps pr fs pt as ar) : form = 0 → (P = 0 ∧ C = 0) ∧ ENF ek eu g1 g2 B ∧ RWF op lf rt R := fun e => by
  obtain ⟨⟨_, b, k⟩, _, _, _, _, _, i, j⟩ := h.1 e
  exact ⟨⟨b, k⟩, i, j⟩
/-- what passes ask -/
theorem OBJ.ssv (h : OBJ form B R P C na rs op tg lf rt ek eu g1 g2 ps pr fs pt as ar) (e : form = 1) : SSV B R P C rs op tg lf rt ek eu g1 g2 ps pr fs pt as ar ∧ C ≤ na := h.2.1 e
/-- what plain asks (X11_plainL's hX_c) -/
theorem OBJ.way (h : OBJ form B R P C na rs op tg lf rt ek eu g1 g2 ps pr fs pt as ar) (r : form ≤ 2) : 1 ≤ form → CGD B R P na rs op tg ek g1 g2 ps pr fs pt as ∧ ENF ek eu g1 g2 B ∧ RWF op lf rt R ∧ ARF B fs ps pr as ar := fun f => by
  by_cases e1 : form = 1
  · have v := (h.2.1 e1).1
    exact ⟨h.cgd r (by omega), v.2.2.1, v.2.2.2.1, v.2.2.2.2.1⟩
  · exact h.2.2 (by omega)
end OBJV

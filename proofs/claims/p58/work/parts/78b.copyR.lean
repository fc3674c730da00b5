/-! the reference keeps, undoes, saves, restores -/
section R78
variable {sa sv d N : Nat} {m : am_M}
end R78

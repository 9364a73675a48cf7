/-! decode rows, out of claim/NAMES.whole.lean.txt -/

